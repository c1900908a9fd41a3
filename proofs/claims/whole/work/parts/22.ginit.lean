-- X6_init
abbrev rm_X6_init : Room := { frames := 3, cells := 101, slots := 7867, locals := 67 }
theorem hX_X6_init_2 : ∀ w ∈ u_ws RX2 TX2 13, w ∈ wsX6_init := by decide +kernel
theorem hX_X6_init_5 : ∀ w ∈ u_ws RX5 TX5 6, w ∈ wsX6_init := by decide +kernel
theorem hX_X6_init_6 : ∀ w ∈ u_ws RX6 TX6 4, w ∈ wsX6_init := by decide +kernel
theorem hdS_X6_init : yX6_init.cls ≠ "java/lang/invoke/MethodHandle" ∧ yX6_init.cls ≠ "java/lang/invoke/VarHandle" ∧ (parseMethodDescriptor yX6_init.desc).map (fun d => d.parameters.length) = some 2 := by decide +kernel
def wb_X6_init_59 (x0 : Nat) (x3 : Int32) (K : zZ → zS → Prop) (rec : Nat → Int32 → zZ → zS → Prop) (k : Nat) (x4 : Int32) (Z : zZ) (S : zS) : Prop :=
  k ≤ 8 ∧ ((x3 ≤ x4 → K Z S) ∧ (¬ x3 ≤ x4 → k < 8 ∧ zk Z x0 6 ∧ ∃ b43, zQ Z x0 1 = some b43 ∧ ∀ b45, b45 ∉ zL Z → ∀ (Z47 : zZ) (S48 : zS), Z47 = zalZ Z b45 2 13 → S48 = zalS S b45 → ∃ b51, zQ Z47 x0 3 = some b51 ∧ w_X2_init Z47 b45 x4 ((1 <<< (x3 &&& 31)) - 1) b51 S48 (fun (Z54 : zZ) (S53 : zS) => zk Z54 b43 12 ∧ zk Z54 b45 2 ∧ vp_in x4 (zN Z54 b43) ∧ ∀ Z59 : zZ, Z59 = zsQ Z54 b43 x4.toNatClampNeg (some b45) → zk Z59 x0 6 ∧ ∃ b63, zQ Z59 x0 2 = some b63 ∧ ∀ b65, b65 ∉ zL Z59 → ∀ (Z67 : zZ) (S68 : zS), Z67 = zalZ Z59 b65 5 6 → S68 = zalS S53 b65 → w_X5_init Z67 b65 S68 (fun (Z74 : zZ) (S73 : zS) => zk Z74 b63 13 ∧ zk Z74 b65 5 ∧ vp_in x4 (zN Z74 b63) ∧ ∀ Z79 : zZ, Z79 = zsQ Z74 b63 x4.toNatClampNeg (some b65) → ∀ y82 : Int32, y82 = x4 + 1 → rec (k + 1) y82 Z79 S73))))
def wL_X6_init_59 (x0 : Nat) (x3 : Int32) (K : zZ → zS → Prop) (k : Nat) (x4 : Int32) (Z : zZ) (S : zS) : Prop := ∃ n, zit4 (wb_X6_init_59 x0 x3 K) n k x4 Z S
set_option maxHeartbeats 4000000 in
set_option maxRecDepth 100000 in
theorem ab_X6_init_59 {p : Program} {l : Launch} {e : Env} {s : State} {m : MethodId} {args : Array Value} {below : List Frame} {meth : Method} {c : Code} {D : va_G} {cy : Nat → ClassId} {A : Nat → Prop} {Q : State → Prop} (C0 : zC p s m args meth c cX6_init 5 wsX6_init RX6 D cy A none) {x0 : Nat} {x3 : Int32} {K : zZ → zS → Prop} (hK : ∀ Z S, K Z S → zG p l e rm_X6_init s m args below meth c D cy A 5 101 7867 Q Z S 110 [] []) {rec : Nat → Int32 → zZ → zS → Prop} (hrec : ∀ k x4 Z S, rec k x4 Z S → zG p l e rm_X6_init s m args below meth c D cy A 5 (5 + 12 * k) (131 + 967 * k) Q Z S 59 [(0, .ref x0), (3, .int x3), (4, .int x4)] []) {k : Nat} {x4 : Int32} {Z : zZ} {S : zS} (hw : wb_X6_init_59 x0 x3 K rec k x4 Z S) : zG p l e rm_X6_init s m args below meth c D cy A 5 (5 + 12 * k + 0) (131 + 967 * k + 0) Q Z S 59 [(0, .ref x0), (3, .int x3), (4, .int x4)] [] := by
  unfold wb_X6_init_59 at hw
  obtain ⟨hk, hw⟩ := hw
  refine zg_iload (q := 61) C0 2 dX6_init_59 rfl rfl ?_
  refine zg_iload_n (q := 62) C0 1 dX6_init_61 rfl rfl ?_
  refine zg_icmp_ge (q := 65) (tgt := 110) C0 dX6_init_62 rfl rfl (fun c83 => ?_) (fun c83 => ?_)
  · have hw := hw.1 c83
    refine zg_sub [] rfl ?_
    refine zg_widen (k := 101) (n := 7867) (by omega) (by omega) ?_
    exact hK _ _ hw
  · have hw := hw.2 c83
    obtain ⟨hk8, hw⟩ := hw
    refine zg_aload_n (q := 66) C0 0 dX6_init_65 rfl rfl ?_
    obtain ⟨hz42, hw⟩ := hw
    refine zg_get (q := 69) (T := TX6) (k := 1) C0 dX6_init_66 hz42 (zF_6 cy hz42) rfl (by decide) hX_X6_init_6 (zwm (i := 17) rfl) rfl rfl rfl ?_
    obtain ⟨b43, hb44, hw⟩ := hw
    refine zg_nn hb44 ?_
    refine zg_iload (q := 71) C0 2 dX6_init_69 rfl rfl ?_
    refine zg_new2 (q := 74) (k := (5 + 12 * k + 1)) (j := (131 + 967 * k + 13)) C0 dX6_init_71 (zwm (i := 16) rfl) (zwm (i := 19) rfl) (zwm (i := 20) rfl) hX_X6_init_2 ⟨by rfl, by rfl⟩ ⟨by first | exact Nat.le_of_ble_eq_true rfl | (show _ ≤ 101; first | omega | (simp only [rm_X2_init, rm_X5_init]; omega)), by first | exact Nat.le_of_ble_eq_true rfl | (show _ ≤ 7867; first | omega | (simp only [rm_X2_init, rm_X5_init]; omega))⟩ rfl (fun b45 ha46 Z47 S48 eZ47 eS48 => ?_)
    have hw := hw b45 ha46 Z47 S48 eZ47 eS48
    have hz49 := zk_old' eZ47 hz42 ha46
    have hz50 := zk_al' eZ47
    refine zg_dup (q := 75) C0 dX6_init_74 rfl rfl ?_
    refine zg_iload (q := 77) C0 2 dX6_init_75 rfl rfl ?_
    refine zg_iconst (q := 78) C0 dX6_init_77 zc_iconst_1 rfl ?_
    refine zg_iload_n (q := 79) C0 1 dX6_init_78 rfl rfl ?_
    refine zg_ishl (q := 80) C0 dX6_init_79 rfl ?_
    refine zg_iconst (q := 81) C0 dX6_init_80 zc_iconst_1 rfl ?_
    refine zg_isub (q := 82) C0 dX6_init_81 rfl ?_
    refine zg_aload_n (q := 83) C0 0 dX6_init_82 rfl rfl ?_
    refine zg_get (q := 86) (T := TX6) (k := 3) C0 dX6_init_83 hz49 (zF_6 cy hz49) rfl (by decide) hX_X6_init_6 (zwm (i := 15) rfl) rfl rfl rfl ?_
    obtain ⟨b51, hb52, hw⟩ := hw
    refine zg_nn hb52 ?_
    refine zg_makeI (q := 89) (k := (5 + 12 * k + 9)) (n := (131 + 967 * k + 852)) C0 [.int x4, .int ((1 <<< (x3 &&& 31)) - 1), .ref b51] [.ref b45, .int x4, .ref b43] dX6_init_86 (fun sz => a_X2_init l D cy Z47 S48 sz b45 x4 ((1 <<< (x3 &&& 31)) - 1) b51 _ hw) rfl gX6_init_X2_init hdS_X2_init (zwm (i := 20) rfl) (zwm (i := 29) rfl) (zwm (i := 30) rfl) rfl rfl ⟨by first | exact Nat.le_of_ble_eq_true rfl | (show _ ≤ 101; first | omega | (simp only [rm_X2_init, rm_X5_init]; omega)), by first | exact Nat.le_of_ble_eq_true rfl | (show _ ≤ 7867; first | omega | (simp only [rm_X2_init, rm_X5_init]; omega))⟩ (Nat.le_of_ble_eq_true rfl) ⟨by first | exact Nat.le_of_ble_eq_true rfl | (show _ ≤ 101; first | omega | (simp only [rm_X2_init, rm_X5_init]; omega)), by first | exact Nat.le_of_ble_eq_true rfl | (show _ ≤ 7867; first | omega | (simp only [rm_X2_init, rm_X5_init]; omega))⟩ ⟨by rfl, by rfl⟩ rfl (fun Z54 S53 hw => ?_)
    obtain ⟨hz55, hw⟩ := hw
    obtain ⟨hz56, hw⟩ := hw
    obtain ⟨hi57, hw⟩ := hw
    refine zg_aast_12 (q := 90) C0 dX6_init_89 hz55 hz56 hi57 rfl (fun Z59 eZ59 => ?_)
    have hw := hw Z59 eZ59
    have hz60 := zk_sQ' eZ59 hz55
    have hz61 := zk_sQ' eZ59 hz56
    refine zg_aload_n (q := 91) C0 0 dX6_init_90 rfl rfl ?_
    obtain ⟨hz62, hw⟩ := hw
    refine zg_get (q := 94) (T := TX6) (k := 2) C0 dX6_init_91 hz62 (zF_6 cy hz62) rfl (by decide) hX_X6_init_6 (zwm (i := 18) rfl) rfl rfl rfl ?_
    obtain ⟨b63, hb64, hw⟩ := hw
    refine zg_nn hb64 ?_
    refine zg_iload (q := 96) C0 2 dX6_init_94 rfl rfl ?_
    refine zg_new5 (q := 99) (k := (5 + 12 * k + 10)) (j := (131 + 967 * k + 858)) C0 dX6_init_96 (zwm (i := 12) rfl) (zwm (i := 13) rfl) (zwm (i := 14) rfl) hX_X6_init_5 ⟨by rfl, by rfl⟩ ⟨by first | exact Nat.le_of_ble_eq_true rfl | (show _ ≤ 101; first | omega | (simp only [rm_X2_init, rm_X5_init]; omega)), by first | exact Nat.le_of_ble_eq_true rfl | (show _ ≤ 7867; first | omega | (simp only [rm_X2_init, rm_X5_init]; omega))⟩ rfl (fun b65 ha66 Z67 S68 eZ67 eS68 => ?_)
    have hw := hw b65 ha66 Z67 S68 eZ67 eS68
    have hz69 := zk_old' eZ67 hz60 ha66
    have hz70 := zk_old' eZ67 hz61 ha66
    have hz71 := zk_old' eZ67 hz62 ha66
    have hz72 := zk_al' eZ67
    refine zg_dup (q := 100) C0 dX6_init_99 rfl rfl ?_
    refine zg_makeIN (q := 103) (k := (5 + 12 * k + 12)) (n := (131 + 967 * k + 967)) C0 [] [.ref b65, .int x4, .ref b63] dX6_init_100 (fun sz => a_X5_init l D cy Z67 S68 sz b65 _ hw) rfl gX6_init_X5_init_n24 hdS_X5_init (zwm (i := 0) rfl) (zwm (i := 14) rfl) (zwm (i := 21) rfl) rfl rfl ⟨by first | exact Nat.le_of_ble_eq_true rfl | (show _ ≤ 101; first | omega | (simp only [rm_X2_init, rm_X5_init]; omega)), by first | exact Nat.le_of_ble_eq_true rfl | (show _ ≤ 7867; first | omega | (simp only [rm_X2_init, rm_X5_init]; omega))⟩ (Nat.le_of_ble_eq_true rfl) ⟨by first | exact Nat.le_of_ble_eq_true rfl | (show _ ≤ 101; first | omega | (simp only [rm_X2_init, rm_X5_init]; omega)), by first | exact Nat.le_of_ble_eq_true rfl | (show _ ≤ 7867; first | omega | (simp only [rm_X2_init, rm_X5_init]; omega))⟩ ⟨by rfl, by rfl⟩ rfl (fun Z74 S73 hw => ?_)
    obtain ⟨hz75, hw⟩ := hw
    obtain ⟨hz76, hw⟩ := hw
    obtain ⟨hi77, hw⟩ := hw
    refine zg_aast_13 (q := 104) C0 dX6_init_103 hz75 hz76 hi77 rfl (fun Z79 eZ79 => ?_)
    have hw := hw Z79 eZ79
    have hz80 := zk_sQ' eZ79 hz75
    have hz81 := zk_sQ' eZ79 hz76
    refine zg_iinc (q := 107) C0 2 dX6_init_104 rfl (by decide) zc_iconst_1 rfl (fun y82 ey82 => ?_)
    have hw := hw y82 ey82
    refine zg_lv (lv' := [(4, .int y82), (0, .ref x0), (3, .int x3)]) rfl ?_
    refine zg_goto (tgt := 59) C0 dX6_init_107 rfl ?_
    refine zg_sub [1, 2, 0] rfl ?_
    refine zg_widen (k := 5 + 12 * (k + 1)) (n := 131 + 967 * (k + 1)) (by omega) (by omega) ?_
    exact hrec _ _ _ _ hw
theorem aL_X6_init_59 {p : Program} {l : Launch} {e : Env} {s : State} {m : MethodId} {args : Array Value} {below : List Frame} {meth : Method} {c : Code} {D : va_G} {cy : Nat → ClassId} {A : Nat → Prop} {Q : State → Prop} (C0 : zC p s m args meth c cX6_init 5 wsX6_init RX6 D cy A none) {x0 : Nat} {x3 : Int32} {K : zZ → zS → Prop} (hK : ∀ Z S, K Z S → zG p l e rm_X6_init s m args below meth c D cy A 5 101 7867 Q Z S 110 [] []) : ∀ k x4 Z S, wL_X6_init_59 x0 x3 K k x4 Z S → zG p l e rm_X6_init s m args below meth c D cy A 5 (5 + 12 * k) (131 + 967 * k) Q Z S 59 [(0, .ref x0), (3, .int x3), (4, .int x4)] [] := by
  intro k x4 Z S hw
  obtain ⟨n, hw⟩ := hw
  induction n generalizing k x4 Z S with
  | zero => exact hw.elim
  | succ n ih => exact ab_X6_init_59 C0 hK (fun k x4 Z S hw => ih k x4 Z S hw) hw
def w_X6_init (Z : zZ) (h0 : Nat) (p0 : Int32) (p1 : Int32) (S : zS) (Qp : zZ → zS → Prop) : Prop :=
  ∀ y1 : Int32, y1 = (if p0 < 8 then p0 else 8) → ∀ y2 : Int32, y2 = (if 2 < y1 then y1 else 2) → ∀ y3 : Int32, y3 = (if p1 < 8 then p1 else 8) → ∀ y4 : Int32, y4 = (if 1 < y3 then y3 else 1) → zk Z h0 6 ∧ ∀ S6 : zS, S6 = zsI S h0 0 y4 → ∀ b7, b7 ∉ zL Z → ∀ (Z9 : zZ) (S10 : zS), Z9 = zalZ Z b7 5 6 → S10 = zalS S6 b7 → w_X5_init Z9 b7 S10 (fun (Z14 : zZ) (S13 : zS) => zk Z14 h0 6 ∧ ∀ Z16 : zZ, Z16 = zsQ Z14 h0 3 (some b7) → ¬ y2 < 0 ∧ y2.toNatClampNeg ≤ 8 ∧ ∀ b18, b18 ∉ zL Z16 → ∀ (Z20 : zZ) (S21 : zS), Z20 = zalZ Z16 b18 12 y2.toNatClampNeg → S21 = zalS S13 b18 → ∀ Z26 : zZ, Z26 = zsQ Z20 h0 1 (some b18) → ¬ y2 < 0 ∧ y2.toNatClampNeg ≤ 8 ∧ ∀ b29, b29 ∉ zL Z26 → ∀ (Z31 : zZ) (S32 : zS), Z31 = zalZ Z26 b29 13 y2.toNatClampNeg → S32 = zalS S21 b29 → ∀ Z38 : zZ, Z38 = zsQ Z31 h0 2 (some b29) → wL_X6_init_59 h0 y2 (fun (Z84 : zZ) (S85 : zS) => Qp Z84 S85) 0 0 Z38 S32)
set_option maxHeartbeats 4000000 in
set_option maxRecDepth 100000 in
theorem a_X6_init (l : Launch) (D : va_G) (cy : Nat → ClassId) (Z : zZ) (S : zS) (sz : Nat) (h0 : Nat) (p0 : Int32) (p1 : Int32) (Qp : zZ → zS → Prop) (hw : w_X6_init Z h0 p0 p1 S Qp) : zMz l yX6_init wsX6_init rm_X6_init D cy Z S sz [.ref h0, .int p0, .int p1] Qp := by
  unfold w_X6_init at hw
  refine zMz_of (cc := cX6_init) (maxL := 5) (rt := none) (by decide +kernel) rfl (Nat.le_of_ble_eq_true rfl) ?_
  intro p e s m args below meth c A C0 hnm0
  refine zg_lv (lv' := [(0, .ref h0), (1, .int p0), (2, .int p1)]) rfl ?_
  refine zg_aload_n (q := 1) C0 0 dX6_init_0 rfl rfl ?_
  refine zg_objInit (q := 4) C0 dX6_init_1 (zwm (i := 1) rfl) (zwm (i := 2) rfl) (zwm (i := 3) rfl) (Nat.le_of_ble_eq_true rfl) (Nat.le_of_ble_eq_true rfl) rfl rfl ?_
  refine zg_iconst (q := 5) C0 dX6_init_4 zc_iconst_2 rfl ?_
  refine zg_bipush (q := 7) C0 dX6_init_5 zc_bipush_8 rfl ?_
  refine zg_iload_n (q := 8) C0 1 dX6_init_7 rfl rfl ?_
  refine zg_mmin (q := 11) C0 dX6_init_8 (zwm (i := 4) rfl) (zwm (i := 5) rfl) (zwm (i := 6) rfl) (zwm (i := 7) rfl) (Nat.le_of_ble_eq_true rfl) (Nat.le_of_ble_eq_true rfl) ⟨Nat.le_of_ble_eq_true rfl, Nat.le_of_ble_eq_true rfl⟩ rfl ?_
  refine zg_ni (fun y1 ey1 => ?_)
  have hw := hw y1 ey1
  refine zg_mmax (q := 14) C0 dX6_init_11 (zwm (i := 8) rfl) (zwm (i := 9) rfl) (zwm (i := 6) rfl) (zwm (i := 10) rfl) (Nat.le_of_ble_eq_true rfl) (Nat.le_of_ble_eq_true rfl) ⟨Nat.le_of_ble_eq_true rfl, Nat.le_of_ble_eq_true rfl⟩ rfl ?_
  refine zg_ni (fun y2 ey2 => ?_)
  have hw := hw y2 ey2
  refine zg_istore_n (q := 15) (lv' := [(3, .int y2), (0, .ref h0), (1, .int p0), (2, .int p1)]) C0 dX6_init_14 (by decide) rfl rfl ?_
  refine zg_aload_n (q := 16) C0 1 dX6_init_15 rfl rfl ?_
  refine zg_iconst (q := 17) C0 dX6_init_16 zc_iconst_1 rfl ?_
  refine zg_bipush (q := 19) C0 dX6_init_17 zc_bipush_8 rfl ?_
  refine zg_iload_n (q := 20) C0 3 dX6_init_19 rfl rfl ?_
  refine zg_mmin (q := 23) C0 dX6_init_20 (zwm (i := 4) rfl) (zwm (i := 5) rfl) (zwm (i := 6) rfl) (zwm (i := 7) rfl) (Nat.le_of_ble_eq_true rfl) (Nat.le_of_ble_eq_true rfl) ⟨Nat.le_of_ble_eq_true rfl, Nat.le_of_ble_eq_true rfl⟩ rfl ?_
  refine zg_ni (fun y3 ey3 => ?_)
  have hw := hw y3 ey3
  refine zg_mmax (q := 26) C0 dX6_init_23 (zwm (i := 8) rfl) (zwm (i := 9) rfl) (zwm (i := 6) rfl) (zwm (i := 10) rfl) (Nat.le_of_ble_eq_true rfl) (Nat.le_of_ble_eq_true rfl) ⟨Nat.le_of_ble_eq_true rfl, Nat.le_of_ble_eq_true rfl⟩ rfl ?_
  refine zg_ni (fun y4 ey4 => ?_)
  have hw := hw y4 ey4
  obtain ⟨hz5, hw⟩ := hw
  refine zg_putfI (q := 29) (T := TX6) (k := 0) (ty0 := tyX6) C0 hnm0 dX6_init_26 hz5 (zF_6 cy hz5) rfl (by decide) hX_X6_init_6 tyX6_ok nmX6 (zwm (i := 11) rfl) rfl rfl rfl rfl rfl (Nat.le_of_ble_eq_true rfl) (zF_6 cy hz5) (zP_6_0 Z S _ _) rfl (fun S6 eS6 => ?_)
  have hw := hw S6 eS6
  refine zg_aload_n (q := 30) C0 1 dX6_init_29 rfl rfl ?_
  refine zg_new5 (q := 33) (k := 1) (j := 6) C0 dX6_init_30 (zwm (i := 12) rfl) (zwm (i := 13) rfl) (zwm (i := 14) rfl) hX_X6_init_5 ⟨rfl, rfl⟩ ⟨Nat.le_of_ble_eq_true rfl, Nat.le_of_ble_eq_true rfl⟩ rfl (fun b7 ha8 Z9 S10 eZ9 eS10 => ?_)
  have hw := hw b7 ha8 Z9 S10 eZ9 eS10
  have hz11 := zk_old' eZ9 hz5 ha8
  have hz12 := zk_al' eZ9
  refine zg_dup (q := 34) C0 dX6_init_33 rfl rfl ?_
  refine zg_makeIN (q := 37) (k := 3) (n := 115) C0 [] [.ref b7, .ref h0] dX6_init_34 (fun sz => a_X5_init l D cy Z9 S10 sz b7 _ hw) rfl gX6_init_X5_init_n24 hdS_X5_init (zwm (i := 0) rfl) (zwm (i := 14) rfl) (zwm (i := 21) rfl) rfl rfl ⟨Nat.le_of_ble_eq_true rfl, Nat.le_of_ble_eq_true rfl⟩ (Nat.le_of_ble_eq_true rfl) ⟨Nat.le_of_ble_eq_true rfl, Nat.le_of_ble_eq_true rfl⟩ ⟨rfl, rfl⟩ rfl (fun Z14 S13 hw => ?_)
  obtain ⟨hz15, hw⟩ := hw
  refine zg_putfQ (q := 40) (v := b7) (T := TX6) (k := 3) (ty0 := tyX6) C0 hnm0 dX6_init_37 hz15 (zF_6 cy hz15) rfl (by decide) hX_X6_init_6 tyX6_ok nmX6 (zwm (i := 15) rfl) rfl rfl rfl rfl rfl (Nat.le_of_ble_eq_true rfl) (zF_6 cy (zk_sQ hz15)) (zP_6_3 Z14 S13 _ (some _)) rfl (fun Z16 eZ16 => ?_)
  have hw := hw Z16 eZ16
  have hz17 := zk_sQ' eZ16 hz15
  refine zg_aload_n (q := 41) C0 1 dX6_init_40 rfl rfl ?_
  refine zg_iload_n (q := 42) C0 0 dX6_init_41 rfl rfl ?_
  obtain ⟨hn22, hn23, hw⟩ := hw
  refine zg_newq12 (q := 45) (N' := y2.toNatClampNeg) (k := 4) (j := 115 + y2.toNatClampNeg) C0 dX6_init_42 (zwm (i := 16) rfl) hn22 rfl (by omega) ⟨rfl, rfl⟩ ⟨Nat.le_of_ble_eq_true rfl, (by show _ ≤ 7867; omega)⟩ rfl (fun b18 ha19 Z20 S21 eZ20 eS21 => ?_)
  have hw := hw b18 ha19 Z20 S21 eZ20 eS21
  refine zg_widen (k := 4) (n := 123) (Nat.le_refl _) (by omega) ?_
  have hz24 := zk_old' eZ20 hz17 ha19
  have hz25 := zk_al' eZ20
  refine zg_putfQ (q := 48) (v := b18) (T := TX6) (k := 1) (ty0 := tyX6) C0 hnm0 dX6_init_45 hz24 (zF_6 cy hz24) rfl (by decide) hX_X6_init_6 tyX6_ok nmX6 (zwm (i := 17) rfl) rfl rfl rfl rfl rfl (Nat.le_of_ble_eq_true rfl) (zF_6 cy (zk_sQ hz24)) (zP_6_1 Z20 S21 _ (some _)) rfl (fun Z26 eZ26 => ?_)
  have hw := hw Z26 eZ26
  have hz27 := zk_sQ' eZ26 hz24
  have hz28 := zk_sQ' eZ26 hz25
  refine zg_aload_n (q := 49) C0 1 dX6_init_48 rfl rfl ?_
  refine zg_iload_n (q := 50) C0 0 dX6_init_49 rfl rfl ?_
  obtain ⟨hn33, hn34, hw⟩ := hw
  refine zg_newq13 (q := 53) (N' := y2.toNatClampNeg) (k := 5) (j := 123 + y2.toNatClampNeg) C0 dX6_init_50 (zwm (i := 12) rfl) hn33 rfl (by omega) ⟨rfl, rfl⟩ ⟨Nat.le_of_ble_eq_true rfl, (by show _ ≤ 7867; omega)⟩ rfl (fun b29 ha30 Z31 S32 eZ31 eS32 => ?_)
  have hw := hw b29 ha30 Z31 S32 eZ31 eS32
  refine zg_widen (k := 5) (n := 131) (Nat.le_refl _) (by omega) ?_
  have hz35 := zk_old' eZ31 hz27 ha30
  have hz36 := zk_old' eZ31 hz28 ha30
  have hz37 := zk_al' eZ31
  refine zg_putfQ (q := 56) (v := b29) (T := TX6) (k := 2) (ty0 := tyX6) C0 hnm0 dX6_init_53 hz35 (zF_6 cy hz35) rfl (by decide) hX_X6_init_6 tyX6_ok nmX6 (zwm (i := 18) rfl) rfl rfl rfl rfl rfl (Nat.le_of_ble_eq_true rfl) (zF_6 cy (zk_sQ hz35)) (zP_6_2 Z31 S32 _ (some _)) rfl (fun Z38 eZ38 => ?_)
  have hw := hw Z38 eZ38
  have hz39 := zk_sQ' eZ38 hz35
  have hz40 := zk_sQ' eZ38 hz36
  have hz41 := zk_sQ' eZ38 hz37
  refine zg_iconst (q := 57) C0 dX6_init_56 zc_iconst_0 rfl ?_
  refine zg_istore (q := 59) (lv' := [(4, .int 0), (3, .int y2), (0, .ref h0), (1, .int p0), (2, .int p1)]) C0 dX6_init_57 (by decide) rfl rfl ?_
  refine zg_sub [2, 1, 0] rfl ?_
  refine zg_widen (k := 5 + 12 * 0) (n := 131 + 967 * 0) (Nat.le_refl _) (Nat.le_refl _) ?_
  refine aL_X6_init_59 C0 (fun Z84 S85 hw => ?_) _ _ _ _ hw
  exact zg_vretz C0 dX6_init_110 rfl (Nat.le_of_ble_eq_true rfl) (Nat.le_of_ble_eq_true rfl) hw
