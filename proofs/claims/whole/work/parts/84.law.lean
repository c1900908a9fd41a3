theorem zc_bipush_15 : (Int8.ofInt 15).toInt32 = 15 := by decide
theorem zc_bipush_32 : (Int8.ofInt 32).toInt32 = 32 := by decide
theorem zc_iconst_6 : Int32.ofInt 6 = 6 := by decide
theorem zwL {i : Nat} {w : Cond} (h : (wsL_law0_r1 ++ (wsL_law0_r2 ++ (wsL_law0_r3 ++ (wsL_law0_r4 ++ (wsL_law0_r5 ++ (wsL_law0_r6 ++ (wsL_law0_r7 ++ (wsL_law0_r8 ++ (wsL_law0_r9 ++ (wsL_law0_r10 ++ (wsL_law0_r11 ++ (wsL_law0_r12 ++ (wsL_law0_r13 ++ (wsL_law0_r14 ++ (wsL_law0_r15 ++ (wsL_law0_r16 ++ (wsL_law0_r17 ++ (wsL_law0_r18 ++ (wsL_law0_r19 ++ (wsL_law0_r20 ++ (wsL_law0_r21 ++ (wsL_law0_r22 ++ (wsL_law0_r23 ++ (wsL_law0_r24 ++ (wsL_law0_r25 ++ wsL_law0_r26)))))))))))))))))))))))))[i]? = some w) : w ∈ wsL_law := List.mem_append_left _ (List.mem_append_left _ (List.mem_append_left _ (List.mem_append_left _ (List.mem_append_left _ (List.mem_append_left _ (List.mem_append_left _ (List.mem_append_left _ (List.mem_append_left _ (List.mem_append_left _ (List.mem_append_left _ (List.mem_append_left _ (List.mem_of_getElem? h))))))))))))
abbrev rm_L_law : Room := room_1
theorem hX_L_law_6 : ∀ w ∈ u_ws RX6 TX6 4, w ∈ wsL_law := inlX6
theorem hX_L_law_7 : ∀ w ∈ u_ws RX7 TX7 36, w ∈ wsL_law := inlX7
theorem hdS_L_cell : yL_cell.cls ≠ "java/lang/invoke/MethodHandle" ∧ yL_cell.cls ≠ "java/lang/invoke/VarHandle" ∧ (parseMethodDescriptor yL_cell.desc).map (fun d => d.parameters.length) = some 2 := by decide +kernel
def wJ_L_law_224 (Z : zZ) (Qp : zS → Prop) (L : Nat) (xs : Nat → Int32) (K : zZ → zS → Prop) (rec : Nat → Int32 → zZ → zS → Prop) (k : Nat) (x0 : Nat) (x1 : Nat) (x2 : Nat) (x3 : Nat) (x4 : Int32) (x5 : Int32) (t0 : Int32) (t1 : Int64) (t2 : Int32) (t3 : Int32) (t4 : Nat) (S : zS) : Prop :=
  zk Z t4 7 ∧ w_X7_send Z t4 t3 t2 t1 t0 S (fun (v36 : Int32) (S35 : zS) => zk Z x2 7 ∧ w_X7_thrown Z x2 S35 (fun (v39 : Int32) (S38 : zS) => ((v39 = x5 → ((¬ x5 = 0 → ∀ y40 : Int32, y40 = x4 + 6 → rec (k + 1) y40 Z S38) ∧ (x5 = 0 → zk Z x3 9 ∧ vp_in 0 (zN Z x3) ∧ (((lg_cmp (zJ S38 x3 (0 : Int32).toNatClampNeg) ((v36 : Int32).toInt64)) = 0 → ∀ y43 : Int32, y43 = x4 + 6 → rec (k + 1) y43 Z S38) ∧ (¬ (lg_cmp (zJ S38 x3 (0 : Int32).toNatClampNeg) ((v36 : Int32).toInt64)) = 0 → False))))) ∧ (¬ v39 = x5 → False))))
set_option maxHeartbeats 4000000 in
set_option maxRecDepth 100000 in
theorem aJ_L_law_224 {p : Program} {l : Launch} {e : Env} {s : State} {m : MethodId} {args : Array Value} {below : List Frame} {meth : Method} {c : Code} {D : va_G} {cy : Nat → ClassId} {A : Nat → Prop} {Q : State → Prop} {Z : zZ} (C0 : zC p s m args meth c cL_law 8 wsL_law RL D cy A ret) (hl0 : l.stackTraces = false) {Qp : zS → Prop} {x0 : Nat} {x1 : Nat} {x2 : Nat} {x3 : Nat} {x4 : Int32} {x5 : Int32} {t0 : Int32} {t1 : Int64} {t2 : Int32} {t3 : Int32} {t4 : Nat}  {L : Nat} {xs : Nat → Int32} {K : zZ → zS → Prop} {rec : Nat → Int32 → zZ → zS → Prop} {k : Nat} (hX : va_X x0 L xs s s.heap) (hbl : x0 < s.heap.size) (hbA : ¬ A x0) (hK : ∀ Z S, K Z S → zG p l e rm_L_law s m args below meth c D cy A 8 1313 33396 Q Z S 842 [] []) (hrec : ∀ k x4 Z S, rec k x4 Z S → zG p l e rm_L_law s m args below meth c D cy A 8 (137 + 24 * k) (25556 + 160 * k) Q Z S 43 [(0, .ref x0), (1, .ref x1), (2, .ref x2), (3, .ref x3), (4, .int x4)] []) (hk8 : k < 49) {S : zS} (hw : wJ_L_law_224 Z Qp L xs K rec k x0 x1 x2 x3 x4 x5 t0 t1 t2 t3 t4 S) : zG p l e rm_L_law s m args below meth c D cy A 8 (137 + 24 * k + 3) (25556 + 160 * k + 18) Q Z S 224 [(0, .ref x0), (1, .ref x1), (2, .ref x2), (3, .ref x3), (4, .int x4), (5, .int x5)] [.int t0, .long t1, .int t2, .int t3, .ref t4] := by
  unfold wJ_L_law_224 at hw
  obtain ⟨hz34, hw⟩ := hw
  refine zg_callVi (q := 227) C0 [.int t3, .int t2, .long t1, .int t0] [] dL_law_224 (fun sz => a_X7_send l D cy Z S sz t4 t3 t2 t1 t0 _ hw) rfl gL_law_X7_send hdV_X7_send hz34 (zF_7 cy hz34) rfl rfl ⟨by first | exact Nat.le_of_ble_eq_true rfl | (show _ ≤ 600096; first | omega | (simp only [rm_L_send, rm_L_pass, rm_L_gather, rm_L_part, rm_L_crash, rm_L_restart, rm_L_about, rm_L_table, rm_L_mark, rm_L_entry, rm_L_primary]; omega)), by first | exact Nat.le_of_ble_eq_true rfl | (show _ ≤ 7301352; first | omega | (simp only [rm_L_send, rm_L_pass, rm_L_gather, rm_L_part, rm_L_crash, rm_L_restart, rm_L_about, rm_L_table, rm_L_mark, rm_L_entry, rm_L_primary]; omega))⟩ (Nat.le_of_ble_eq_true rfl) ⟨by first | exact Nat.le_of_ble_eq_true rfl | (show _ ≤ 600096; first | omega | (simp only [rm_L_send, rm_L_pass, rm_L_gather, rm_L_part, rm_L_crash, rm_L_restart, rm_L_about, rm_L_table, rm_L_mark, rm_L_entry, rm_L_primary]; omega)), by first | exact Nat.le_of_ble_eq_true rfl | (show _ ≤ 7301352; first | omega | (simp only [rm_L_send, rm_L_pass, rm_L_gather, rm_L_part, rm_L_crash, rm_L_restart, rm_L_about, rm_L_table, rm_L_mark, rm_L_entry, rm_L_primary]; omega))⟩ ⟨by rfl, by rfl⟩ rfl (fun v36 S35 hw => ?_)
  refine zg_istore (q := 229) (lv' := [(6, .int v36), (0, .ref x0), (1, .ref x1), (2, .ref x2), (3, .ref x3), (4, .int x4), (5, .int x5)]) C0 dL_law_227 (by decide) rfl rfl ?_
  refine zg_aload_n (q := 230) C0 3 dL_law_229 rfl rfl ?_
  obtain ⟨hz37, hw⟩ := hw
  refine zg_callVi (q := 233) C0 [] [] dL_law_230 (fun sz => a_X7_thrown l D cy Z S35 sz x2 _ hw) rfl gL_law_X7_thrown hdV_X7_thrown hz37 (zF_7 cy hz37) rfl rfl ⟨by first | exact Nat.le_of_ble_eq_true rfl | (show _ ≤ 600096; first | omega | (simp only [rm_L_send, rm_L_pass, rm_L_gather, rm_L_part, rm_L_crash, rm_L_restart, rm_L_about, rm_L_table, rm_L_mark, rm_L_entry, rm_L_primary]; omega)), by first | exact Nat.le_of_ble_eq_true rfl | (show _ ≤ 7301352; first | omega | (simp only [rm_L_send, rm_L_pass, rm_L_gather, rm_L_part, rm_L_crash, rm_L_restart, rm_L_about, rm_L_table, rm_L_mark, rm_L_entry, rm_L_primary]; omega))⟩ (Nat.le_of_ble_eq_true rfl) ⟨by first | exact Nat.le_of_ble_eq_true rfl | (show _ ≤ 600096; first | omega | (simp only [rm_L_send, rm_L_pass, rm_L_gather, rm_L_part, rm_L_crash, rm_L_restart, rm_L_about, rm_L_table, rm_L_mark, rm_L_entry, rm_L_primary]; omega)), by first | exact Nat.le_of_ble_eq_true rfl | (show _ ≤ 7301352; first | omega | (simp only [rm_L_send, rm_L_pass, rm_L_gather, rm_L_part, rm_L_crash, rm_L_restart, rm_L_about, rm_L_table, rm_L_mark, rm_L_entry, rm_L_primary]; omega))⟩ ⟨by rfl, by rfl⟩ rfl (fun v39 S38 hw => ?_)
  refine zg_iload (q := 235) C0 6 dL_law_233 rfl rfl ?_
  refine zg_icmp_eq (q := 238) (tgt := 240) C0 dL_law_235 rfl rfl (fun c46 => ?_) (fun c46 => ?_)
  · have hw := hw.1 c46
    refine zg_iload (q := 242) C0 6 dL_law_240 rfl rfl ?_
    refine zg_if_ne (q := 245) (tgt := 257) C0 dL_law_242 rfl rfl (fun c45 => ?_) (fun c45 => ?_)
    · have hw := hw.1 c45
      refine zg_goto (tgt := 836) C0 dL_law_257 rfl ?_
      refine zg_iinc (q := 839) C0 5 dL_law_836 rfl (by decide) zc_iconst_6 rfl (fun y40 ey40 => ?_)
      have hw := hw y40 ey40
      refine zg_lv (lv' := [(4, .int y40), (6, .int v36), (0, .ref x0), (1, .ref x1), (2, .ref x2), (3, .ref x3), (5, .int x5)]) rfl ?_
      refine zg_goto (tgt := 43) C0 dL_law_839 rfl ?_
      refine zg_sub [2, 3, 4, 5, 0] rfl ?_
      refine zg_widen (k := 137 + 24 * (k + 1)) (n := 25556 + 160 * (k + 1)) (by omega) (by omega) ?_
      exact hrec _ _ _ _ hw
    · have hw := hw.2 c45
      refine zg_aload_n (q := 246) C0 4 dL_law_245 rfl rfl ?_
      refine zg_iconst (q := 247) C0 dL_law_246 zc_iconst_0 rfl ?_
      obtain ⟨hz41, hw⟩ := hw
      obtain ⟨hi42, hw⟩ := hw
      refine zg_lald (q := 248) C0 dL_law_247 hz41 hi42 rfl ?_
      refine zg_iload (q := 250) C0 0 dL_law_248 rfl rfl ?_
      refine zg_i2l (q := 251) C0 dL_law_250 rfl ?_
      refine zg_lcmp (q := 252) C0 dL_law_251 rfl ?_
      refine zg_if_eq (q := 255) (tgt := 257) C0 dL_law_252 rfl rfl (fun c44 => ?_) (fun c44 => ?_)
      · have hw := hw.1 c44
        refine zg_goto (tgt := 836) C0 dL_law_257 rfl ?_
        refine zg_iinc (q := 839) C0 5 dL_law_836 rfl (by decide) zc_iconst_6 rfl (fun y43 ey43 => ?_)
        have hw := hw y43 ey43
        refine zg_lv (lv' := [(4, .int y43), (6, .int v36), (0, .ref x0), (1, .ref x1), (2, .ref x2), (3, .ref x3), (5, .int x5)]) rfl ?_
        refine zg_goto (tgt := 43) C0 dL_law_839 rfl ?_
        refine zg_sub [2, 3, 4, 5, 0] rfl ?_
        refine zg_widen (k := 137 + 24 * (k + 1)) (n := 25556 + 160 * (k + 1)) (by omega) (by omega) ?_
        exact hrec _ _ _ _ hw
      · have hw := hw.2 c44
        refine zg_iconst (q := 256) C0 dL_law_255 zc_iconst_0 rfl ?_
        exact hw.elim
  · have hw := hw.2 c46
    refine zg_iconst (q := 239) C0 dL_law_238 zc_iconst_0 rfl ?_
    exact hw.elim
def wJ_L_law_169 (Z : zZ) (Qp : zS → Prop) (L : Nat) (xs : Nat → Int32) (K : zZ → zS → Prop) (rec : Nat → Int32 → zZ → zS → Prop) (k : Nat) (x0 : Nat) (x1 : Nat) (x2 : Nat) (x3 : Nat) (x4 : Int32) (t0 : Int32) (t1 : Int64) (t2 : Int32) (t3 : Int32) (t4 : Nat) (S : zS) : Prop :=
  w_L_send Z t4 t3 t2 t1 t0 x3 S (fun (v27 : Int32) (Z28 : zZ) (S26 : zS) => vp_in (x4 + 1) L ∧ vp_in (x4 + 2) L ∧ vp_in (x4 + 3) L ∧ vp_in (x4 + 4) L ∧ vp_in (x4 + 5) L ∧ (((xs (x4 + 5).toNatClampNeg) = 0 → wJ_L_law_224 Z28 Qp L xs K rec k x0 x1 x2 x3 x4 v27 0 ((((xs (x4 + 3).toNatClampNeg : Int32).toInt64) <<< ((32 : Int32).toInt64 &&& 63)) ||| (((xs (x4 + 4).toNatClampNeg : Int32).toInt64) &&& 4294967295)) (xs (x4 + 2).toNatClampNeg) (xs (x4 + 1).toNatClampNeg) x2 S26) ∧ (¬ (xs (x4 + 5).toNatClampNeg) = 0 → wJ_L_law_224 Z28 Qp L xs K rec k x0 x1 x2 x3 x4 v27 1 ((((xs (x4 + 3).toNatClampNeg : Int32).toInt64) <<< ((32 : Int32).toInt64 &&& 63)) ||| (((xs (x4 + 4).toNatClampNeg : Int32).toInt64) &&& 4294967295)) (xs (x4 + 2).toNatClampNeg) (xs (x4 + 1).toNatClampNeg) x2 S26)))
set_option maxHeartbeats 4000000 in
set_option maxRecDepth 100000 in
theorem aJ_L_law_169 {p : Program} {l : Launch} {e : Env} {s : State} {m : MethodId} {args : Array Value} {below : List Frame} {meth : Method} {c : Code} {D : va_G} {cy : Nat → ClassId} {A : Nat → Prop} {Q : State → Prop} {Z : zZ} (C0 : zC p s m args meth c cL_law 8 wsL_law RL D cy A ret) (hl0 : l.stackTraces = false) {Qp : zS → Prop} {x0 : Nat} {x1 : Nat} {x2 : Nat} {x3 : Nat} {x4 : Int32} {t0 : Int32} {t1 : Int64} {t2 : Int32} {t3 : Int32} {t4 : Nat}  {L : Nat} {xs : Nat → Int32} {K : zZ → zS → Prop} {rec : Nat → Int32 → zZ → zS → Prop} {k : Nat} (hX : va_X x0 L xs s s.heap) (hbl : x0 < s.heap.size) (hbA : ¬ A x0) (hK : ∀ Z S, K Z S → zG p l e rm_L_law s m args below meth c D cy A 8 1313 33396 Q Z S 842 [] []) (hrec : ∀ k x4 Z S, rec k x4 Z S → zG p l e rm_L_law s m args below meth c D cy A 8 (137 + 24 * k) (25556 + 160 * k) Q Z S 43 [(0, .ref x0), (1, .ref x1), (2, .ref x2), (3, .ref x3), (4, .int x4)] []) (hk8 : k < 49) {S : zS} (hw : wJ_L_law_169 Z Qp L xs K rec k x0 x1 x2 x3 x4 t0 t1 t2 t3 t4 S) : zG p l e rm_L_law s m args below meth c D cy A 8 (137 + 24 * k + 0) (25556 + 160 * k + 0) Q Z S 169 [(0, .ref x0), (1, .ref x1), (2, .ref x2), (3, .ref x3), (4, .int x4)] [.int t0, .long t1, .int t2, .int t3, .ref t4] := by
  unfold wJ_L_law_169 at hw
  refine zg_aload_n (q := 170) C0 3 dL_law_169 rfl rfl ?_
  refine zgl_callz (q := 173) (k := (137 + 24 * k + 3)) (n := (25556 + 160 * k + 18)) C0 [.ref t4, .int t3, .int t2, .long t1, .int t0, .ref x3] [] dL_law_170 (fun sz => a_L_send l D cy Z S sz t4 t3 t2 t1 t0 x3 _ hl0 hw) rfl ggL_law_L_send (zwL (i := 119) rfl) (zwL (i := 120) rfl) (zwL (i := 10) rfl) hdS_L_send rfl ⟨by first | exact Nat.le_of_ble_eq_true rfl | (show _ ≤ 600096; first | omega | (simp only [rm_L_send, rm_L_pass, rm_L_gather, rm_L_part, rm_L_crash, rm_L_restart, rm_L_about, rm_L_table, rm_L_mark, rm_L_entry, rm_L_primary]; omega)), by first | exact Nat.le_of_ble_eq_true rfl | (show _ ≤ 7301352; first | omega | (simp only [rm_L_send, rm_L_pass, rm_L_gather, rm_L_part, rm_L_crash, rm_L_restart, rm_L_about, rm_L_table, rm_L_mark, rm_L_entry, rm_L_primary]; omega))⟩ (Nat.le_of_ble_eq_true rfl) ⟨by first | exact Nat.le_of_ble_eq_true rfl | (show _ ≤ 600096; first | omega | (simp only [rm_L_send, rm_L_pass, rm_L_gather, rm_L_part, rm_L_crash, rm_L_restart, rm_L_about, rm_L_table, rm_L_mark, rm_L_entry, rm_L_primary]; omega)), by first | exact Nat.le_of_ble_eq_true rfl | (show _ ≤ 7301352; first | omega | (simp only [rm_L_send, rm_L_pass, rm_L_gather, rm_L_part, rm_L_crash, rm_L_restart, rm_L_about, rm_L_table, rm_L_mark, rm_L_entry, rm_L_primary]; omega))⟩ ⟨by rfl, by rfl⟩ rfl (fun v27 Z28 S26 hw => ?_)
  refine zg_istore (q := 175) (lv' := [(5, .int v27), (0, .ref x0), (1, .ref x1), (2, .ref x2), (3, .ref x3), (4, .int x4)]) C0 dL_law_173 (by decide) rfl rfl ?_
  refine zg_aload_n (q := 176) C0 3 dL_law_175 rfl rfl ?_
  refine zg_aload_n (q := 177) C0 1 dL_law_176 rfl rfl ?_
  refine zg_iload (q := 179) C0 5 dL_law_177 rfl rfl ?_
  refine zg_iconst (q := 180) C0 dL_law_179 zc_iconst_1 rfl ?_
  refine zg_iadd (q := 181) C0 dL_law_180 rfl ?_
  obtain ⟨hi29, hw⟩ := hw
  refine zg_sld (q := 182) C0 hX hbl hbA hi29 dL_law_181 rfl ?_
  refine zg_aload_n (q := 183) C0 1 dL_law_182 rfl rfl ?_
  refine zg_iload (q := 185) C0 5 dL_law_183 rfl rfl ?_
  refine zg_iconst (q := 186) C0 dL_law_185 zc_iconst_2 rfl ?_
  refine zg_iadd (q := 187) C0 dL_law_186 rfl ?_
  obtain ⟨hi30, hw⟩ := hw
  refine zg_sld (q := 188) C0 hX hbl hbA hi30 dL_law_187 rfl ?_
  refine zg_aload_n (q := 189) C0 1 dL_law_188 rfl rfl ?_
  refine zg_iload (q := 191) C0 5 dL_law_189 rfl rfl ?_
  refine zg_iconst (q := 192) C0 dL_law_191 zc_iconst_3 rfl ?_
  refine zg_iadd (q := 193) C0 dL_law_192 rfl ?_
  obtain ⟨hi31, hw⟩ := hw
  refine zg_sld (q := 194) C0 hX hbl hbA hi31 dL_law_193 rfl ?_
  refine zg_i2l (q := 195) C0 dL_law_194 rfl ?_
  refine zg_bipush (q := 197) C0 dL_law_195 zc_bipush_32 rfl ?_
  refine zg_lshl (q := 198) C0 dL_law_197 rfl ?_
  refine zg_aload_n (q := 199) C0 1 dL_law_198 rfl rfl ?_
  refine zg_iload (q := 201) C0 5 dL_law_199 rfl rfl ?_
  refine zg_iconst (q := 202) C0 dL_law_201 zc_iconst_4 rfl ?_
  refine zg_iadd (q := 203) C0 dL_law_202 rfl ?_
  obtain ⟨hi32, hw⟩ := hw
  refine zg_sld (q := 204) C0 hX hbl hbA hi32 dL_law_203 rfl ?_
  refine zg_i2l (q := 205) C0 dL_law_204 rfl ?_
  refine zg_ldc2 (q := 208) (v := 4294967295) C0 dL_law_205 (zwL (i := 7) rfl) rfl ?_
  refine zg_land (q := 209) C0 dL_law_208 rfl ?_
  refine zg_lor (q := 210) C0 dL_law_209 rfl ?_
  refine zg_aload_n (q := 211) C0 1 dL_law_210 rfl rfl ?_
  refine zg_iload (q := 213) C0 5 dL_law_211 rfl rfl ?_
  refine zg_iconst (q := 214) C0 dL_law_213 zc_iconst_5 rfl ?_
  refine zg_iadd (q := 215) C0 dL_law_214 rfl ?_
  obtain ⟨hi33, hw⟩ := hw
  refine zg_sld (q := 216) C0 hX hbl hbA hi33 dL_law_215 rfl ?_
  refine zg_if_eq (q := 219) (tgt := 223) C0 dL_law_216 rfl rfl (fun c47 => ?_) (fun c47 => ?_)
  · have hw := hw.1 c47
    refine zg_iconst (q := 224) C0 dL_law_223 zc_iconst_0 rfl ?_
    refine zg_sub [1, 2, 3, 4, 5, 0] rfl ?_
    exact aJ_L_law_224 C0 hl0 hX hbl hbA hK hrec hk8 hw
  · have hw := hw.2 c47
    refine zg_iconst (q := 220) C0 dL_law_219 zc_iconst_1 rfl ?_
    refine zg_goto (tgt := 224) C0 dL_law_220 rfl ?_
    refine zg_sub [1, 2, 3, 4, 5, 0] rfl ?_
    exact aJ_L_law_224 C0 hl0 hX hbl hbA hK hrec hk8 hw
def wb_L_law_43 (L : Nat) (xs : Nat → Int32) (x0 x1 x2 x3 : Nat) (K : zZ → zS → Prop) (rec : Nat → Int32 → zZ → zS → Prop) (k : Nat) (x4 : Int32) (Z : zZ) (S : zS) : Prop :=
  k < 49 ∧ ((((nI L) - 6) < x4 → K Z S) ∧ (¬ ((nI L) - 6) < x4 → vp_in x4 L ∧ ((((xs x4.toNatClampNeg) &&& 15) = 0 → vp_in (x4 + 1) L ∧ vp_in (x4 + 2) L ∧ vp_in (x4 + 3) L ∧ vp_in (x4 + 4) L ∧ vp_in (x4 + 5) L ∧ (((xs (x4 + 5).toNatClampNeg) = 0 → wJ_L_law_169 Z (fun _ => True) L xs K rec k x0 x1 x2 x3 x4 0 ((((xs (x4 + 3).toNatClampNeg : Int32).toInt64) <<< ((32 : Int32).toInt64 &&& 63)) ||| (((xs (x4 + 4).toNatClampNeg : Int32).toInt64) &&& 4294967295)) (xs (x4 + 2).toNatClampNeg) (xs (x4 + 1).toNatClampNeg) x1 S) ∧ (¬ (xs (x4 + 5).toNatClampNeg) = 0 → wJ_L_law_169 Z (fun _ => True) L xs K rec k x0 x1 x2 x3 x4 1 ((((xs (x4 + 3).toNatClampNeg : Int32).toInt64) <<< ((32 : Int32).toInt64 &&& 63)) ||| (((xs (x4 + 4).toNatClampNeg : Int32).toInt64) &&& 4294967295)) (xs (x4 + 2).toNatClampNeg) (xs (x4 + 1).toNatClampNeg) x1 S))) ∧ (¬ ((xs x4.toNatClampNeg) &&& 15) = 0 → ((((xs x4.toNatClampNeg) &&& 15) = 1 → vp_in (x4 + 1) L ∧ vp_in (x4 + 2) L ∧ w_L_pass Z x1 (xs (x4 + 1).toNatClampNeg) (xs (x4 + 2).toNatClampNeg) x3 S (fun (v53 : Int32) (S52 : zS) => zk Z x2 7 ∧ w_X7_pass Z x2 (xs (x4 + 1).toNatClampNeg) (xs (x4 + 2).toNatClampNeg) S52 (fun (v56 : Int32) (S55 : zS) => w_X7_thrown Z x2 S55 (fun (v58 : Int32) (S57 : zS) => ((v58 = v53 → ((¬ v53 = 0 → ∀ y59 : Int32, y59 = x4 + 6 → rec (k + 1) y59 Z S57) ∧ (v53 = 0 → zk Z x3 9 ∧ vp_in 0 (zN Z x3) ∧ (((lg_cmp (zJ S57 x3 (0 : Int32).toNatClampNeg) ((v56 : Int32).toInt64)) = 0 → ∀ y62 : Int32, y62 = x4 + 6 → rec (k + 1) y62 Z S57) ∧ (¬ (lg_cmp (zJ S57 x3 (0 : Int32).toNatClampNeg) ((v56 : Int32).toInt64)) = 0 → False))))) ∧ (¬ v58 = v53 → False)))))) ∧ (¬ ((xs x4.toNatClampNeg) &&& 15) = 1 → ((((xs x4.toNatClampNeg) &&& 15) = 2 → vp_in (x4 + 1) L ∧ w_L_gather Z x1 (xs (x4 + 1).toNatClampNeg) x3 S (fun (v69 : Int32) (S68 : zS) => zk Z x2 7 ∧ w_X7_gather Z x2 (xs (x4 + 1).toNatClampNeg) S68 (fun (v72 : Int32) (S71 : zS) => w_X7_thrown Z x2 S71 (fun (v74 : Int32) (S73 : zS) => ((v74 = v69 → ((¬ v69 = 0 → ∀ y75 : Int32, y75 = x4 + 6 → rec (k + 1) y75 Z S73) ∧ (v69 = 0 → zk Z x3 9 ∧ vp_in 0 (zN Z x3) ∧ (((lg_cmp (zJ S73 x3 (0 : Int32).toNatClampNeg) ((v72 : Int32).toInt64)) = 0 → ∀ y78 : Int32, y78 = x4 + 6 → rec (k + 1) y78 Z S73) ∧ (¬ (lg_cmp (zJ S73 x3 (0 : Int32).toNatClampNeg) ((v72 : Int32).toInt64)) = 0 → False))))) ∧ (¬ v74 = v69 → False)))))) ∧ (¬ ((xs x4.toNatClampNeg) &&& 15) = 2 → ((((xs x4.toNatClampNeg) &&& 15) = 3 → vp_in (x4 + 1) L ∧ vp_in (x4 + 2) L ∧ w_L_part Z x1 (xs (x4 + 1).toNatClampNeg) (xs (x4 + 2).toNatClampNeg) S (fun (v86 : Int32) (S85 : zS) => zk Z x2 7 ∧ w_X7_part Z x2 (xs (x4 + 1).toNatClampNeg) (xs (x4 + 2).toNatClampNeg) S85 (fun (S88 : zS) => w_X7_thrown Z x2 S88 (fun (v90 : Int32) (S89 : zS) => ((v90 = v86 → ∀ y91 : Int32, y91 = x4 + 6 → rec (k + 1) y91 Z S89) ∧ (¬ v90 = v86 → False)))))) ∧ (¬ ((xs x4.toNatClampNeg) &&& 15) = 3 → ((((xs x4.toNatClampNeg) &&& 15) = 4 → vp_in (x4 + 1) L ∧ w_L_crash Z x1 (xs (x4 + 1).toNatClampNeg) S (fun (v96 : Int32) (S95 : zS) => zk Z x2 7 ∧ w_X7_crash Z x2 (xs (x4 + 1).toNatClampNeg) S95 (fun (S98 : zS) => w_X7_thrown Z x2 S98 (fun (v100 : Int32) (S99 : zS) => ((v100 = v96 → ∀ y101 : Int32, y101 = x4 + 6 → rec (k + 1) y101 Z S99) ∧ (¬ v100 = v96 → False)))))) ∧ (¬ ((xs x4.toNatClampNeg) &&& 15) = 4 → ((((xs x4.toNatClampNeg) &&& 15) = 5 → vp_in (x4 + 1) L ∧ w_L_restart Z x1 (xs (x4 + 1).toNatClampNeg) S (fun (v106 : Int32) (S105 : zS) => zk Z x2 7 ∧ w_X7_restart Z x2 (xs (x4 + 1).toNatClampNeg) S105 (fun (S108 : zS) => w_X7_thrown Z x2 S108 (fun (v110 : Int32) (S109 : zS) => ((v110 = v106 → ∀ y111 : Int32, y111 = x4 + 6 → rec (k + 1) y111 Z S109) ∧ (¬ v110 = v106 → False)))))) ∧ (¬ ((xs x4.toNatClampNeg) &&& 15) = 5 → ((((xs x4.toNatClampNeg) &&& 15) = 6 → vp_in (x4 + 1) L ∧ vp_in (x4 + 2) L ∧ w_L_about Z x1 (xs (x4 + 1).toNatClampNeg) (xs (x4 + 2).toNatClampNeg) x3 S (fun (v117 : Int32) (S116 : zS) => zk Z x2 7 ∧ w_X7_about Z x2 (xs (x4 + 1).toNatClampNeg) (xs (x4 + 2).toNatClampNeg) S116 (fun (v120 : Int32) (S119 : zS) => w_X7_thrown Z x2 S119 (fun (v122 : Int32) (S121 : zS) => ((v122 = v117 → ((¬ v117 = 0 → ∀ y123 : Int32, y123 = x4 + 6 → rec (k + 1) y123 Z S121) ∧ (v117 = 0 → zk Z x3 9 ∧ vp_in 0 (zN Z x3) ∧ (((lg_cmp (zJ S121 x3 (0 : Int32).toNatClampNeg) ((v120 : Int32).toInt64)) = 0 → ∀ y126 : Int32, y126 = x4 + 6 → rec (k + 1) y126 Z S121) ∧ (¬ (lg_cmp (zJ S121 x3 (0 : Int32).toNatClampNeg) ((v120 : Int32).toInt64)) = 0 → False))))) ∧ (¬ v122 = v117 → False)))))) ∧ (¬ ((xs x4.toNatClampNeg) &&& 15) = 6 → ((((xs x4.toNatClampNeg) &&& 15) = 7 → vp_in (x4 + 1) L ∧ vp_in (x4 + 2) L ∧ w_L_table Z x1 (xs (x4 + 1).toNatClampNeg) (xs (x4 + 2).toNatClampNeg) x3 S (fun (v134 : Int32) (S133 : zS) => zk Z x2 7 ∧ w_X7_table Z x2 (xs (x4 + 1).toNatClampNeg) (xs (x4 + 2).toNatClampNeg) S133 (fun (v137 : Int64) (S136 : zS) => w_X7_thrown Z x2 S136 (fun (v139 : Int32) (S138 : zS) => ((v139 = v134 → ((¬ v134 = 0 → ∀ y140 : Int32, y140 = x4 + 6 → rec (k + 1) y140 Z S138) ∧ (v134 = 0 → zk Z x3 9 ∧ vp_in 0 (zN Z x3) ∧ (((lg_cmp (zJ S138 x3 (0 : Int32).toNatClampNeg) v137) = 0 → ∀ y143 : Int32, y143 = x4 + 6 → rec (k + 1) y143 Z S138) ∧ (¬ (lg_cmp (zJ S138 x3 (0 : Int32).toNatClampNeg) v137) = 0 → False))))) ∧ (¬ v139 = v134 → False)))))) ∧ (¬ ((xs x4.toNatClampNeg) &&& 15) = 7 → ((((xs x4.toNatClampNeg) &&& 15) = 8 → vp_in (x4 + 1) L ∧ w_L_mark Z x1 (xs (x4 + 1).toNatClampNeg) x3 S (fun (v150 : Int32) (S149 : zS) => zk Z x2 7 ∧ w_X7_mark Z x2 (xs (x4 + 1).toNatClampNeg) S149 (fun (v153 : Int64) (S152 : zS) => w_X7_thrown Z x2 S152 (fun (v155 : Int32) (S154 : zS) => ((v155 = v150 → ((¬ v150 = 0 → ∀ y156 : Int32, y156 = x4 + 6 → rec (k + 1) y156 Z S154) ∧ (v150 = 0 → zk Z x3 9 ∧ vp_in 0 (zN Z x3) ∧ (((lg_cmp (zJ S154 x3 (0 : Int32).toNatClampNeg) v153) = 0 → ∀ y159 : Int32, y159 = x4 + 6 → rec (k + 1) y159 Z S154) ∧ (¬ (lg_cmp (zJ S154 x3 (0 : Int32).toNatClampNeg) v153) = 0 → False))))) ∧ (¬ v155 = v150 → False)))))) ∧ (¬ ((xs x4.toNatClampNeg) &&& 15) = 8 → ((((xs x4.toNatClampNeg) &&& 15) = 9 → vp_in (x4 + 1) L ∧ vp_in (x4 + 2) L ∧ vp_in (x4 + 3) L ∧ w_L_entry Z x1 (xs (x4 + 1).toNatClampNeg) (xs (x4 + 2).toNatClampNeg) (xs (x4 + 3).toNatClampNeg) x3 S (fun (v168 : Int32) (S167 : zS) => zk Z x2 7 ∧ w_X7_entry Z x2 (xs (x4 + 1).toNatClampNeg) (xs (x4 + 2).toNatClampNeg) (xs (x4 + 3).toNatClampNeg) S167 (fun (v171 : Int64) (S170 : zS) => w_X7_thrown Z x2 S170 (fun (v173 : Int32) (S172 : zS) => ((v173 = v168 → ((¬ v168 = 0 → ∀ y174 : Int32, y174 = x4 + 6 → rec (k + 1) y174 Z S172) ∧ (v168 = 0 → zk Z x3 9 ∧ vp_in 0 (zN Z x3) ∧ (((lg_cmp (zJ S172 x3 (0 : Int32).toNatClampNeg) v171) = 0 → ∀ y177 : Int32, y177 = x4 + 6 → rec (k + 1) y177 Z S172) ∧ (¬ (lg_cmp (zJ S172 x3 (0 : Int32).toNatClampNeg) v171) = 0 → False))))) ∧ (¬ v173 = v168 → False)))))) ∧ (¬ ((xs x4.toNatClampNeg) &&& 15) = 9 → ((((xs x4.toNatClampNeg) &&& 15) = 10 → vp_in (x4 + 1) L ∧ w_L_primary Z x1 (xs (x4 + 1).toNatClampNeg) x3 S (fun (v184 : Int32) (S183 : zS) => zk Z x2 7 ∧ w_X7_primary Z x2 (xs (x4 + 1).toNatClampNeg) S183 (fun (v187 : Int32) (S186 : zS) => w_X7_thrown Z x2 S186 (fun (v189 : Int32) (S188 : zS) => ((v189 = v184 → ((¬ v184 = 0 → ∀ y190 : Int32, y190 = x4 + 6 → rec (k + 1) y190 Z S188) ∧ (v184 = 0 → zk Z x3 9 ∧ vp_in 0 (zN Z x3) ∧ ((v187 = 0 → (((lg_cmp (zJ S188 x3 (0 : Int32).toNatClampNeg) 0) = 0 → ∀ y193 : Int32, y193 = x4 + 6 → rec (k + 1) y193 Z S188) ∧ (¬ (lg_cmp (zJ S188 x3 (0 : Int32).toNatClampNeg) 0) = 0 → False))) ∧ (¬ v187 = 0 → (((lg_cmp (zJ S188 x3 (0 : Int32).toNatClampNeg) 1) = 0 → ∀ y195 : Int32, y195 = x4 + 6 → rec (k + 1) y195 Z S188) ∧ (¬ (lg_cmp (zJ S188 x3 (0 : Int32).toNatClampNeg) 1) = 0 → False))))))) ∧ (¬ v189 = v184 → False)))))) ∧ (¬ ((xs x4.toNatClampNeg) &&& 15) = 10 → ∀ y201 : Int32, y201 = x4 + 6 → rec (k + 1) y201 Z S))))))))))))))))))))))))
def wL_L_law_43 (L : Nat) (xs : Nat → Int32) (x0 x1 x2 x3 : Nat) (K : zZ → zS → Prop) (k : Nat) (x4 : Int32) (Z : zZ) (S : zS) : Prop := ∃ n, zit4 (wb_L_law_43 L xs x0 x1 x2 x3 K) n k x4 Z S
set_option maxHeartbeats 4000000 in
set_option maxRecDepth 100000 in
theorem ab_L_law_43 {p : Program} {l : Launch} {e : Env} {s : State} {m : MethodId} {args : Array Value} {below : List Frame} {meth : Method} {c : Code} {D : va_G} {cy : Nat → ClassId} {A : Nat → Prop} {Q : State → Prop} (C0 : zC p s m args meth c cL_law 8 wsL_law RL D cy A ret) (hl0 : l.stackTraces = false) {x0 x1 x2 x3 : Nat} {L : Nat} {xs : Nat → Int32} {K : zZ → zS → Prop} (hX : va_X x0 L xs s s.heap) (hbl : x0 < s.heap.size) (hbA : ¬ A x0) (hK : ∀ Z S, K Z S → zG p l e rm_L_law s m args below meth c D cy A 8 1313 33396 Q Z S 842 [] []) {rec : Nat → Int32 → zZ → zS → Prop} (hrec : ∀ k x4 Z S, rec k x4 Z S → zG p l e rm_L_law s m args below meth c D cy A 8 (137 + 24 * k) (25556 + 160 * k) Q Z S 43 [(0, .ref x0), (1, .ref x1), (2, .ref x2), (3, .ref x3), (4, .int x4)] []) {k : Nat} {x4 : Int32} {Z : zZ} {S : zS} (hw : wb_L_law_43 L xs x0 x1 x2 x3 K rec k x4 Z S) : zG p l e rm_L_law s m args below meth c D cy A 8 (137 + 24 * k + 0) (25556 + 160 * k + 0) Q Z S 43 [(0, .ref x0), (1, .ref x1), (2, .ref x2), (3, .ref x3), (4, .int x4)] [] := by
  unfold wb_L_law_43 at hw
  obtain ⟨hk8, hw⟩ := hw
  refine zg_iload (q := 45) C0 4 dL_law_43 rfl rfl ?_
  refine zg_aload_n (q := 46) C0 0 dL_law_45 rfl rfl ?_
  refine zg_slen (q := 47) C0 hX hbl hbA dL_law_46 rfl ?_
  refine zg_bipush (q := 49) C0 dL_law_47 zc_bipush_6 rfl ?_
  refine zg_isub (q := 50) C0 dL_law_49 rfl ?_
  refine zg_icmp_gt (q := 53) (tgt := 842) C0 dL_law_50 rfl rfl (fun c202 => ?_) (fun c202 => ?_)
  · have hw := hw.1 c202
    refine zg_sub [] rfl ?_
    refine zg_widen (k := 1313) (n := 33396) (by omega) (by omega) ?_
    exact hK _ _ hw
  · have hw := hw.2 c202
    refine zg_aload_n (q := 54) C0 0 dL_law_53 rfl rfl ?_
    refine zg_iload (q := 56) C0 4 dL_law_54 rfl rfl ?_
    obtain ⟨hi20, hw⟩ := hw
    refine zg_sld (q := 57) C0 hX hbl hbA hi20 dL_law_56 rfl ?_
    refine zg_bipush (q := 59) C0 dL_law_57 zc_bipush_15 rfl ?_
    refine zg_iand (q := 60) C0 dL_law_59 rfl ?_
    by_cases c49 : ((xs x4.toNatClampNeg) &&& 15) = 0
    · have hw := hw.1 c49
      refine zg_tabIn (v := 0) (tgt := 120) C0 dL_law_60 c49 (by decide) (by decide) rfl rfl ?_
      refine zg_aload_n (q := 121) C0 1 dL_law_120 rfl rfl ?_
      refine zg_aload_n (q := 122) C0 0 dL_law_121 rfl rfl ?_
      refine zg_iload (q := 124) C0 4 dL_law_122 rfl rfl ?_
      refine zg_iconst (q := 125) C0 dL_law_124 zc_iconst_1 rfl ?_
      refine zg_iadd (q := 126) C0 dL_law_125 rfl ?_
      obtain ⟨hi21, hw⟩ := hw
      refine zg_sld (q := 127) C0 hX hbl hbA hi21 dL_law_126 rfl ?_
      refine zg_aload_n (q := 128) C0 0 dL_law_127 rfl rfl ?_
      refine zg_iload (q := 130) C0 4 dL_law_128 rfl rfl ?_
      refine zg_iconst (q := 131) C0 dL_law_130 zc_iconst_2 rfl ?_
      refine zg_iadd (q := 132) C0 dL_law_131 rfl ?_
      obtain ⟨hi22, hw⟩ := hw
      refine zg_sld (q := 133) C0 hX hbl hbA hi22 dL_law_132 rfl ?_
      refine zg_aload_n (q := 134) C0 0 dL_law_133 rfl rfl ?_
      refine zg_iload (q := 136) C0 4 dL_law_134 rfl rfl ?_
      refine zg_iconst (q := 137) C0 dL_law_136 zc_iconst_3 rfl ?_
      refine zg_iadd (q := 138) C0 dL_law_137 rfl ?_
      obtain ⟨hi23, hw⟩ := hw
      refine zg_sld (q := 139) C0 hX hbl hbA hi23 dL_law_138 rfl ?_
      refine zg_i2l (q := 140) C0 dL_law_139 rfl ?_
      refine zg_bipush (q := 142) C0 dL_law_140 zc_bipush_32 rfl ?_
      refine zg_lshl (q := 143) C0 dL_law_142 rfl ?_
      refine zg_aload_n (q := 144) C0 0 dL_law_143 rfl rfl ?_
      refine zg_iload (q := 146) C0 4 dL_law_144 rfl rfl ?_
      refine zg_iconst (q := 147) C0 dL_law_146 zc_iconst_4 rfl ?_
      refine zg_iadd (q := 148) C0 dL_law_147 rfl ?_
      obtain ⟨hi24, hw⟩ := hw
      refine zg_sld (q := 149) C0 hX hbl hbA hi24 dL_law_148 rfl ?_
      refine zg_i2l (q := 150) C0 dL_law_149 rfl ?_
      refine zg_ldc2 (q := 153) (v := 4294967295) C0 dL_law_150 (zwL (i := 7) rfl) rfl ?_
      refine zg_land (q := 154) C0 dL_law_153 rfl ?_
      refine zg_lor (q := 155) C0 dL_law_154 rfl ?_
      refine zg_aload_n (q := 156) C0 0 dL_law_155 rfl rfl ?_
      refine zg_iload (q := 158) C0 4 dL_law_156 rfl rfl ?_
      refine zg_iconst (q := 159) C0 dL_law_158 zc_iconst_5 rfl ?_
      refine zg_iadd (q := 160) C0 dL_law_159 rfl ?_
      obtain ⟨hi25, hw⟩ := hw
      refine zg_sld (q := 161) C0 hX hbl hbA hi25 dL_law_160 rfl ?_
      refine zg_if_eq (q := 164) (tgt := 168) C0 dL_law_161 rfl rfl (fun c48 => ?_) (fun c48 => ?_)
      · have hw := hw.1 c48
        refine zg_iconst (q := 169) C0 dL_law_168 zc_iconst_0 rfl ?_
        refine zg_sub [0, 1, 2, 3, 4] rfl ?_
        exact aJ_L_law_169 C0 hl0 hX hbl hbA hK hrec hk8 hw
      · have hw := hw.2 c48
        refine zg_iconst (q := 165) C0 dL_law_164 zc_iconst_1 rfl ?_
        refine zg_goto (tgt := 169) C0 dL_law_165 rfl ?_
        refine zg_sub [0, 1, 2, 3, 4] rfl ?_
        exact aJ_L_law_169 C0 hl0 hX hbl hbA hK hrec hk8 hw
    · have hw := hw.2 c49
      by_cases c66 : ((xs x4.toNatClampNeg) &&& 15) = 1
      · have hw := hw.1 c66
        refine zg_tabIn (v := 1) (tgt := 260) C0 dL_law_60 c66 (by decide) (by decide) rfl rfl ?_
        refine zg_aload_n (q := 261) C0 1 dL_law_260 rfl rfl ?_
        refine zg_aload_n (q := 262) C0 0 dL_law_261 rfl rfl ?_
        refine zg_iload (q := 264) C0 4 dL_law_262 rfl rfl ?_
        refine zg_iconst (q := 265) C0 dL_law_264 zc_iconst_1 rfl ?_
        refine zg_iadd (q := 266) C0 dL_law_265 rfl ?_
        obtain ⟨hi50, hw⟩ := hw
        refine zg_sld (q := 267) C0 hX hbl hbA hi50 dL_law_266 rfl ?_
        refine zg_aload_n (q := 268) C0 0 dL_law_267 rfl rfl ?_
        refine zg_iload (q := 270) C0 4 dL_law_268 rfl rfl ?_
        refine zg_iconst (q := 271) C0 dL_law_270 zc_iconst_2 rfl ?_
        refine zg_iadd (q := 272) C0 dL_law_271 rfl ?_
        obtain ⟨hi51, hw⟩ := hw
        refine zg_sld (q := 273) C0 hX hbl hbA hi51 dL_law_272 rfl ?_
        refine zg_aload_n (q := 274) C0 3 dL_law_273 rfl rfl ?_
        refine zgl_calli (q := 277) (k := (137 + 24 * k + 2)) (n := (25556 + 160 * k + 12)) C0 [.ref x1, .int (xs (x4 + 1).toNatClampNeg), .int (xs (x4 + 2).toNatClampNeg), .ref x3] [] dL_law_274 (fun sz => a_L_pass l D cy Z S sz x1 (xs (x4 + 1).toNatClampNeg) (xs (x4 + 2).toNatClampNeg) x3 _ hl0 hw) rfl ggL_law_L_pass (zwL (i := 174) rfl) (zwL (i := 175) rfl) (zwL (i := 10) rfl) hdS_L_pass rfl ⟨by first | exact Nat.le_of_ble_eq_true rfl | (show _ ≤ 600096; first | omega | (simp only [rm_L_send, rm_L_pass, rm_L_gather, rm_L_part, rm_L_crash, rm_L_restart, rm_L_about, rm_L_table, rm_L_mark, rm_L_entry, rm_L_primary]; omega)), by first | exact Nat.le_of_ble_eq_true rfl | (show _ ≤ 7301352; first | omega | (simp only [rm_L_send, rm_L_pass, rm_L_gather, rm_L_part, rm_L_crash, rm_L_restart, rm_L_about, rm_L_table, rm_L_mark, rm_L_entry, rm_L_primary]; omega))⟩ (Nat.le_of_ble_eq_true rfl) ⟨by first | exact Nat.le_of_ble_eq_true rfl | (show _ ≤ 600096; first | omega | (simp only [rm_L_send, rm_L_pass, rm_L_gather, rm_L_part, rm_L_crash, rm_L_restart, rm_L_about, rm_L_table, rm_L_mark, rm_L_entry, rm_L_primary]; omega)), by first | exact Nat.le_of_ble_eq_true rfl | (show _ ≤ 7301352; first | omega | (simp only [rm_L_send, rm_L_pass, rm_L_gather, rm_L_part, rm_L_crash, rm_L_restart, rm_L_about, rm_L_table, rm_L_mark, rm_L_entry, rm_L_primary]; omega))⟩ ⟨by rfl, by rfl⟩ rfl (fun v53 S52 hw => ?_)
        refine zg_istore (q := 279) (lv' := [(5, .int v53), (0, .ref x0), (1, .ref x1), (2, .ref x2), (3, .ref x3), (4, .int x4)]) C0 dL_law_277 (by decide) rfl rfl ?_
        refine zg_aload_n (q := 280) C0 3 dL_law_279 rfl rfl ?_
        refine zg_aload_n (q := 281) C0 1 dL_law_280 rfl rfl ?_
        refine zg_iload (q := 283) C0 5 dL_law_281 rfl rfl ?_
        refine zg_iconst (q := 284) C0 dL_law_283 zc_iconst_1 rfl ?_
        refine zg_iadd (q := 285) C0 dL_law_284 rfl ?_
        refine zg_sld (q := 286) C0 hX hbl hbA hi50 dL_law_285 rfl ?_
        refine zg_aload_n (q := 287) C0 1 dL_law_286 rfl rfl ?_
        refine zg_iload (q := 289) C0 5 dL_law_287 rfl rfl ?_
        refine zg_iconst (q := 290) C0 dL_law_289 zc_iconst_2 rfl ?_
        refine zg_iadd (q := 291) C0 dL_law_290 rfl ?_
        refine zg_sld (q := 292) C0 hX hbl hbA hi51 dL_law_291 rfl ?_
        obtain ⟨hz54, hw⟩ := hw
        refine zg_callVi (q := 295) C0 [.int (xs (x4 + 1).toNatClampNeg), .int (xs (x4 + 2).toNatClampNeg)] [] dL_law_292 (fun sz => a_X7_pass l D cy Z S52 sz x2 (xs (x4 + 1).toNatClampNeg) (xs (x4 + 2).toNatClampNeg) _ hw) rfl gL_law_X7_pass hdV_X7_pass hz54 (zF_7 cy hz54) rfl rfl ⟨by first | exact Nat.le_of_ble_eq_true rfl | (show _ ≤ 600096; first | omega | (simp only [rm_L_send, rm_L_pass, rm_L_gather, rm_L_part, rm_L_crash, rm_L_restart, rm_L_about, rm_L_table, rm_L_mark, rm_L_entry, rm_L_primary]; omega)), by first | exact Nat.le_of_ble_eq_true rfl | (show _ ≤ 7301352; first | omega | (simp only [rm_L_send, rm_L_pass, rm_L_gather, rm_L_part, rm_L_crash, rm_L_restart, rm_L_about, rm_L_table, rm_L_mark, rm_L_entry, rm_L_primary]; omega))⟩ (Nat.le_of_ble_eq_true rfl) ⟨by first | exact Nat.le_of_ble_eq_true rfl | (show _ ≤ 600096; first | omega | (simp only [rm_L_send, rm_L_pass, rm_L_gather, rm_L_part, rm_L_crash, rm_L_restart, rm_L_about, rm_L_table, rm_L_mark, rm_L_entry, rm_L_primary]; omega)), by first | exact Nat.le_of_ble_eq_true rfl | (show _ ≤ 7301352; first | omega | (simp only [rm_L_send, rm_L_pass, rm_L_gather, rm_L_part, rm_L_crash, rm_L_restart, rm_L_about, rm_L_table, rm_L_mark, rm_L_entry, rm_L_primary]; omega))⟩ ⟨by rfl, by rfl⟩ rfl (fun v56 S55 hw => ?_)
        refine zg_istore (q := 297) (lv' := [(6, .int v56), (5, .int v53), (0, .ref x0), (1, .ref x1), (2, .ref x2), (3, .ref x3), (4, .int x4)]) C0 dL_law_295 (by decide) rfl rfl ?_
        refine zg_aload_n (q := 298) C0 4 dL_law_297 rfl rfl ?_
        refine zg_callVi (q := 301) C0 [] [] dL_law_298 (fun sz => a_X7_thrown l D cy Z S55 sz x2 _ hw) rfl gL_law_X7_thrown hdV_X7_thrown hz54 (zF_7 cy hz54) rfl rfl ⟨by first | exact Nat.le_of_ble_eq_true rfl | (show _ ≤ 600096; first | omega | (simp only [rm_L_send, rm_L_pass, rm_L_gather, rm_L_part, rm_L_crash, rm_L_restart, rm_L_about, rm_L_table, rm_L_mark, rm_L_entry, rm_L_primary]; omega)), by first | exact Nat.le_of_ble_eq_true rfl | (show _ ≤ 7301352; first | omega | (simp only [rm_L_send, rm_L_pass, rm_L_gather, rm_L_part, rm_L_crash, rm_L_restart, rm_L_about, rm_L_table, rm_L_mark, rm_L_entry, rm_L_primary]; omega))⟩ (Nat.le_of_ble_eq_true rfl) ⟨by first | exact Nat.le_of_ble_eq_true rfl | (show _ ≤ 600096; first | omega | (simp only [rm_L_send, rm_L_pass, rm_L_gather, rm_L_part, rm_L_crash, rm_L_restart, rm_L_about, rm_L_table, rm_L_mark, rm_L_entry, rm_L_primary]; omega)), by first | exact Nat.le_of_ble_eq_true rfl | (show _ ≤ 7301352; first | omega | (simp only [rm_L_send, rm_L_pass, rm_L_gather, rm_L_part, rm_L_crash, rm_L_restart, rm_L_about, rm_L_table, rm_L_mark, rm_L_entry, rm_L_primary]; omega))⟩ ⟨by rfl, by rfl⟩ rfl (fun v58 S57 hw => ?_)
        refine zg_iload (q := 303) C0 1 dL_law_301 rfl rfl ?_
        refine zg_icmp_eq (q := 306) (tgt := 308) C0 dL_law_303 rfl rfl (fun c65 => ?_) (fun c65 => ?_)
        · have hw := hw.1 c65
          refine zg_iload (q := 310) C0 1 dL_law_308 rfl rfl ?_
          refine zg_if_ne (q := 313) (tgt := 325) C0 dL_law_310 rfl rfl (fun c64 => ?_) (fun c64 => ?_)
          · have hw := hw.1 c64
            refine zg_goto (tgt := 836) C0 dL_law_325 rfl ?_
            refine zg_iinc (q := 839) C0 6 dL_law_836 rfl (by decide) zc_iconst_6 rfl (fun y59 ey59 => ?_)
            have hw := hw y59 ey59
            refine zg_lv (lv' := [(4, .int y59), (6, .int v56), (5, .int v53), (0, .ref x0), (1, .ref x1), (2, .ref x2), (3, .ref x3)]) rfl ?_
            refine zg_goto (tgt := 43) C0 dL_law_839 rfl ?_
            refine zg_sub [3, 4, 5, 6, 0] rfl ?_
            refine zg_widen (k := 137 + 24 * (k + 1)) (n := 25556 + 160 * (k + 1)) (by omega) (by omega) ?_
            exact hrec _ _ _ _ hw
          · have hw := hw.2 c64
            refine zg_aload_n (q := 314) C0 5 dL_law_313 rfl rfl ?_
            refine zg_iconst (q := 315) C0 dL_law_314 zc_iconst_0 rfl ?_
            obtain ⟨hz60, hw⟩ := hw
            obtain ⟨hi61, hw⟩ := hw
            refine zg_lald (q := 316) C0 dL_law_315 hz60 hi61 rfl ?_
            refine zg_iload (q := 318) C0 0 dL_law_316 rfl rfl ?_
            refine zg_i2l (q := 319) C0 dL_law_318 rfl ?_
            refine zg_lcmp (q := 320) C0 dL_law_319 rfl ?_
            refine zg_if_eq (q := 323) (tgt := 325) C0 dL_law_320 rfl rfl (fun c63 => ?_) (fun c63 => ?_)
            · have hw := hw.1 c63
              refine zg_goto (tgt := 836) C0 dL_law_325 rfl ?_
              refine zg_iinc (q := 839) C0 6 dL_law_836 rfl (by decide) zc_iconst_6 rfl (fun y62 ey62 => ?_)
              have hw := hw y62 ey62
              refine zg_lv (lv' := [(4, .int y62), (6, .int v56), (5, .int v53), (0, .ref x0), (1, .ref x1), (2, .ref x2), (3, .ref x3)]) rfl ?_
              refine zg_goto (tgt := 43) C0 dL_law_839 rfl ?_
              refine zg_sub [3, 4, 5, 6, 0] rfl ?_
              refine zg_widen (k := 137 + 24 * (k + 1)) (n := 25556 + 160 * (k + 1)) (by omega) (by omega) ?_
              exact hrec _ _ _ _ hw
            · have hw := hw.2 c63
              refine zg_iconst (q := 324) C0 dL_law_323 zc_iconst_0 rfl ?_
              exact hw.elim
        · have hw := hw.2 c65
          refine zg_iconst (q := 307) C0 dL_law_306 zc_iconst_0 rfl ?_
          exact hw.elim
      · have hw := hw.2 c66
        by_cases c82 : ((xs x4.toNatClampNeg) &&& 15) = 2
        · have hw := hw.1 c82
          refine zg_tabIn (v := 2) (tgt := 328) C0 dL_law_60 c82 (by decide) (by decide) rfl rfl ?_
          refine zg_aload_n (q := 329) C0 1 dL_law_328 rfl rfl ?_
          refine zg_aload_n (q := 330) C0 0 dL_law_329 rfl rfl ?_
          refine zg_iload (q := 332) C0 4 dL_law_330 rfl rfl ?_
          refine zg_iconst (q := 333) C0 dL_law_332 zc_iconst_1 rfl ?_
          refine zg_iadd (q := 334) C0 dL_law_333 rfl ?_
          obtain ⟨hi67, hw⟩ := hw
          refine zg_sld (q := 335) C0 hX hbl hbA hi67 dL_law_334 rfl ?_
          refine zg_aload_n (q := 336) C0 3 dL_law_335 rfl rfl ?_
          refine zgl_calli (q := 339) (k := (137 + 24 * k + 2)) (n := (25556 + 160 * k + 12)) C0 [.ref x1, .int (xs (x4 + 1).toNatClampNeg), .ref x3] [] dL_law_336 (fun sz => a_L_gather l D cy Z S sz x1 (xs (x4 + 1).toNatClampNeg) x3 _ hl0 hw) rfl ggL_law_L_gather (zwL (i := 337) rfl) (zwL (i := 338) rfl) (zwL (i := 10) rfl) hdS_L_gather rfl ⟨by first | exact Nat.le_of_ble_eq_true rfl | (show _ ≤ 600096; first | omega | (simp only [rm_L_send, rm_L_pass, rm_L_gather, rm_L_part, rm_L_crash, rm_L_restart, rm_L_about, rm_L_table, rm_L_mark, rm_L_entry, rm_L_primary]; omega)), by first | exact Nat.le_of_ble_eq_true rfl | (show _ ≤ 7301352; first | omega | (simp only [rm_L_send, rm_L_pass, rm_L_gather, rm_L_part, rm_L_crash, rm_L_restart, rm_L_about, rm_L_table, rm_L_mark, rm_L_entry, rm_L_primary]; omega))⟩ (Nat.le_of_ble_eq_true rfl) ⟨by first | exact Nat.le_of_ble_eq_true rfl | (show _ ≤ 600096; first | omega | (simp only [rm_L_send, rm_L_pass, rm_L_gather, rm_L_part, rm_L_crash, rm_L_restart, rm_L_about, rm_L_table, rm_L_mark, rm_L_entry, rm_L_primary]; omega)), by first | exact Nat.le_of_ble_eq_true rfl | (show _ ≤ 7301352; first | omega | (simp only [rm_L_send, rm_L_pass, rm_L_gather, rm_L_part, rm_L_crash, rm_L_restart, rm_L_about, rm_L_table, rm_L_mark, rm_L_entry, rm_L_primary]; omega))⟩ ⟨by rfl, by rfl⟩ rfl (fun v69 S68 hw => ?_)
          refine zg_istore (q := 341) (lv' := [(5, .int v69), (0, .ref x0), (1, .ref x1), (2, .ref x2), (3, .ref x3), (4, .int x4)]) C0 dL_law_339 (by decide) rfl rfl ?_
          refine zg_aload_n (q := 342) C0 3 dL_law_341 rfl rfl ?_
          refine zg_aload_n (q := 343) C0 1 dL_law_342 rfl rfl ?_
          refine zg_iload (q := 345) C0 5 dL_law_343 rfl rfl ?_
          refine zg_iconst (q := 346) C0 dL_law_345 zc_iconst_1 rfl ?_
          refine zg_iadd (q := 347) C0 dL_law_346 rfl ?_
          refine zg_sld (q := 348) C0 hX hbl hbA hi67 dL_law_347 rfl ?_
          obtain ⟨hz70, hw⟩ := hw
          refine zg_callVi (q := 351) C0 [.int (xs (x4 + 1).toNatClampNeg)] [] dL_law_348 (fun sz => a_X7_gather l D cy Z S68 sz x2 (xs (x4 + 1).toNatClampNeg) _ hw) rfl gL_law_X7_gather hdV_X7_gather hz70 (zF_7 cy hz70) rfl rfl ⟨by first | exact Nat.le_of_ble_eq_true rfl | (show _ ≤ 600096; first | omega | (simp only [rm_L_send, rm_L_pass, rm_L_gather, rm_L_part, rm_L_crash, rm_L_restart, rm_L_about, rm_L_table, rm_L_mark, rm_L_entry, rm_L_primary]; omega)), by first | exact Nat.le_of_ble_eq_true rfl | (show _ ≤ 7301352; first | omega | (simp only [rm_L_send, rm_L_pass, rm_L_gather, rm_L_part, rm_L_crash, rm_L_restart, rm_L_about, rm_L_table, rm_L_mark, rm_L_entry, rm_L_primary]; omega))⟩ (Nat.le_of_ble_eq_true rfl) ⟨by first | exact Nat.le_of_ble_eq_true rfl | (show _ ≤ 600096; first | omega | (simp only [rm_L_send, rm_L_pass, rm_L_gather, rm_L_part, rm_L_crash, rm_L_restart, rm_L_about, rm_L_table, rm_L_mark, rm_L_entry, rm_L_primary]; omega)), by first | exact Nat.le_of_ble_eq_true rfl | (show _ ≤ 7301352; first | omega | (simp only [rm_L_send, rm_L_pass, rm_L_gather, rm_L_part, rm_L_crash, rm_L_restart, rm_L_about, rm_L_table, rm_L_mark, rm_L_entry, rm_L_primary]; omega))⟩ ⟨by rfl, by rfl⟩ rfl (fun v72 S71 hw => ?_)
          refine zg_istore (q := 353) (lv' := [(6, .int v72), (5, .int v69), (0, .ref x0), (1, .ref x1), (2, .ref x2), (3, .ref x3), (4, .int x4)]) C0 dL_law_351 (by decide) rfl rfl ?_
          refine zg_aload_n (q := 354) C0 4 dL_law_353 rfl rfl ?_
          refine zg_callVi (q := 357) C0 [] [] dL_law_354 (fun sz => a_X7_thrown l D cy Z S71 sz x2 _ hw) rfl gL_law_X7_thrown hdV_X7_thrown hz70 (zF_7 cy hz70) rfl rfl ⟨by first | exact Nat.le_of_ble_eq_true rfl | (show _ ≤ 600096; first | omega | (simp only [rm_L_send, rm_L_pass, rm_L_gather, rm_L_part, rm_L_crash, rm_L_restart, rm_L_about, rm_L_table, rm_L_mark, rm_L_entry, rm_L_primary]; omega)), by first | exact Nat.le_of_ble_eq_true rfl | (show _ ≤ 7301352; first | omega | (simp only [rm_L_send, rm_L_pass, rm_L_gather, rm_L_part, rm_L_crash, rm_L_restart, rm_L_about, rm_L_table, rm_L_mark, rm_L_entry, rm_L_primary]; omega))⟩ (Nat.le_of_ble_eq_true rfl) ⟨by first | exact Nat.le_of_ble_eq_true rfl | (show _ ≤ 600096; first | omega | (simp only [rm_L_send, rm_L_pass, rm_L_gather, rm_L_part, rm_L_crash, rm_L_restart, rm_L_about, rm_L_table, rm_L_mark, rm_L_entry, rm_L_primary]; omega)), by first | exact Nat.le_of_ble_eq_true rfl | (show _ ≤ 7301352; first | omega | (simp only [rm_L_send, rm_L_pass, rm_L_gather, rm_L_part, rm_L_crash, rm_L_restart, rm_L_about, rm_L_table, rm_L_mark, rm_L_entry, rm_L_primary]; omega))⟩ ⟨by rfl, by rfl⟩ rfl (fun v74 S73 hw => ?_)
          refine zg_iload (q := 359) C0 1 dL_law_357 rfl rfl ?_
          refine zg_icmp_eq (q := 362) (tgt := 364) C0 dL_law_359 rfl rfl (fun c81 => ?_) (fun c81 => ?_)
          · have hw := hw.1 c81
            refine zg_iload (q := 366) C0 1 dL_law_364 rfl rfl ?_
            refine zg_if_ne (q := 369) (tgt := 381) C0 dL_law_366 rfl rfl (fun c80 => ?_) (fun c80 => ?_)
            · have hw := hw.1 c80
              refine zg_goto (tgt := 836) C0 dL_law_381 rfl ?_
              refine zg_iinc (q := 839) C0 6 dL_law_836 rfl (by decide) zc_iconst_6 rfl (fun y75 ey75 => ?_)
              have hw := hw y75 ey75
              refine zg_lv (lv' := [(4, .int y75), (6, .int v72), (5, .int v69), (0, .ref x0), (1, .ref x1), (2, .ref x2), (3, .ref x3)]) rfl ?_
              refine zg_goto (tgt := 43) C0 dL_law_839 rfl ?_
              refine zg_sub [3, 4, 5, 6, 0] rfl ?_
              refine zg_widen (k := 137 + 24 * (k + 1)) (n := 25556 + 160 * (k + 1)) (by omega) (by omega) ?_
              exact hrec _ _ _ _ hw
            · have hw := hw.2 c80
              refine zg_aload_n (q := 370) C0 5 dL_law_369 rfl rfl ?_
              refine zg_iconst (q := 371) C0 dL_law_370 zc_iconst_0 rfl ?_
              obtain ⟨hz76, hw⟩ := hw
              obtain ⟨hi77, hw⟩ := hw
              refine zg_lald (q := 372) C0 dL_law_371 hz76 hi77 rfl ?_
              refine zg_iload (q := 374) C0 0 dL_law_372 rfl rfl ?_
              refine zg_i2l (q := 375) C0 dL_law_374 rfl ?_
              refine zg_lcmp (q := 376) C0 dL_law_375 rfl ?_
              refine zg_if_eq (q := 379) (tgt := 381) C0 dL_law_376 rfl rfl (fun c79 => ?_) (fun c79 => ?_)
              · have hw := hw.1 c79
                refine zg_goto (tgt := 836) C0 dL_law_381 rfl ?_
                refine zg_iinc (q := 839) C0 6 dL_law_836 rfl (by decide) zc_iconst_6 rfl (fun y78 ey78 => ?_)
                have hw := hw y78 ey78
                refine zg_lv (lv' := [(4, .int y78), (6, .int v72), (5, .int v69), (0, .ref x0), (1, .ref x1), (2, .ref x2), (3, .ref x3)]) rfl ?_
                refine zg_goto (tgt := 43) C0 dL_law_839 rfl ?_
                refine zg_sub [3, 4, 5, 6, 0] rfl ?_
                refine zg_widen (k := 137 + 24 * (k + 1)) (n := 25556 + 160 * (k + 1)) (by omega) (by omega) ?_
                exact hrec _ _ _ _ hw
              · have hw := hw.2 c79
                refine zg_iconst (q := 380) C0 dL_law_379 zc_iconst_0 rfl ?_
                exact hw.elim
          · have hw := hw.2 c81
            refine zg_iconst (q := 363) C0 dL_law_362 zc_iconst_0 rfl ?_
            exact hw.elim
        · have hw := hw.2 c82
          by_cases c93 : ((xs x4.toNatClampNeg) &&& 15) = 3
          · have hw := hw.1 c93
            refine zg_tabIn (v := 3) (tgt := 384) C0 dL_law_60 c93 (by decide) (by decide) rfl rfl ?_
            refine zg_aload_n (q := 385) C0 1 dL_law_384 rfl rfl ?_
            refine zg_aload_n (q := 386) C0 0 dL_law_385 rfl rfl ?_
            refine zg_iload (q := 388) C0 4 dL_law_386 rfl rfl ?_
            refine zg_iconst (q := 389) C0 dL_law_388 zc_iconst_1 rfl ?_
            refine zg_iadd (q := 390) C0 dL_law_389 rfl ?_
            obtain ⟨hi83, hw⟩ := hw
            refine zg_sld (q := 391) C0 hX hbl hbA hi83 dL_law_390 rfl ?_
            refine zg_aload_n (q := 392) C0 0 dL_law_391 rfl rfl ?_
            refine zg_iload (q := 394) C0 4 dL_law_392 rfl rfl ?_
            refine zg_iconst (q := 395) C0 dL_law_394 zc_iconst_2 rfl ?_
            refine zg_iadd (q := 396) C0 dL_law_395 rfl ?_
            obtain ⟨hi84, hw⟩ := hw
            refine zg_sld (q := 397) C0 hX hbl hbA hi84 dL_law_396 rfl ?_
            refine zgl_calli (q := 400) (k := (137 + 24 * k + 2)) (n := (25556 + 160 * k + 12)) C0 [.ref x1, .int (xs (x4 + 1).toNatClampNeg), .int (xs (x4 + 2).toNatClampNeg)] [] dL_law_397 (fun sz => a_L_part l D cy Z S sz x1 (xs (x4 + 1).toNatClampNeg) (xs (x4 + 2).toNatClampNeg) _ hl0 hw) rfl ggL_law_L_part (zwL (i := 506) rfl) (zwL (i := 507) rfl) (zwL (i := 10) rfl) hdS_L_part rfl ⟨by first | exact Nat.le_of_ble_eq_true rfl | (show _ ≤ 600096; first | omega | (simp only [rm_L_send, rm_L_pass, rm_L_gather, rm_L_part, rm_L_crash, rm_L_restart, rm_L_about, rm_L_table, rm_L_mark, rm_L_entry, rm_L_primary]; omega)), by first | exact Nat.le_of_ble_eq_true rfl | (show _ ≤ 7301352; first | omega | (simp only [rm_L_send, rm_L_pass, rm_L_gather, rm_L_part, rm_L_crash, rm_L_restart, rm_L_about, rm_L_table, rm_L_mark, rm_L_entry, rm_L_primary]; omega))⟩ (Nat.le_of_ble_eq_true rfl) ⟨by first | exact Nat.le_of_ble_eq_true rfl | (show _ ≤ 600096; first | omega | (simp only [rm_L_send, rm_L_pass, rm_L_gather, rm_L_part, rm_L_crash, rm_L_restart, rm_L_about, rm_L_table, rm_L_mark, rm_L_entry, rm_L_primary]; omega)), by first | exact Nat.le_of_ble_eq_true rfl | (show _ ≤ 7301352; first | omega | (simp only [rm_L_send, rm_L_pass, rm_L_gather, rm_L_part, rm_L_crash, rm_L_restart, rm_L_about, rm_L_table, rm_L_mark, rm_L_entry, rm_L_primary]; omega))⟩ ⟨by rfl, by rfl⟩ rfl (fun v86 S85 hw => ?_)
            refine zg_istore (q := 402) (lv' := [(5, .int v86), (0, .ref x0), (1, .ref x1), (2, .ref x2), (3, .ref x3), (4, .int x4)]) C0 dL_law_400 (by decide) rfl rfl ?_
            refine zg_aload_n (q := 403) C0 3 dL_law_402 rfl rfl ?_
            refine zg_aload_n (q := 404) C0 1 dL_law_403 rfl rfl ?_
            refine zg_iload (q := 406) C0 5 dL_law_404 rfl rfl ?_
            refine zg_iconst (q := 407) C0 dL_law_406 zc_iconst_1 rfl ?_
            refine zg_iadd (q := 408) C0 dL_law_407 rfl ?_
            refine zg_sld (q := 409) C0 hX hbl hbA hi83 dL_law_408 rfl ?_
            refine zg_aload_n (q := 410) C0 1 dL_law_409 rfl rfl ?_
            refine zg_iload (q := 412) C0 5 dL_law_410 rfl rfl ?_
            refine zg_iconst (q := 413) C0 dL_law_412 zc_iconst_2 rfl ?_
            refine zg_iadd (q := 414) C0 dL_law_413 rfl ?_
            refine zg_sld (q := 415) C0 hX hbl hbA hi84 dL_law_414 rfl ?_
            obtain ⟨hz87, hw⟩ := hw
            refine zg_callVv (q := 418) C0 [.int (xs (x4 + 1).toNatClampNeg), .int (xs (x4 + 2).toNatClampNeg)] [] dL_law_415 (fun sz => a_X7_part l D cy Z S85 sz x2 (xs (x4 + 1).toNatClampNeg) (xs (x4 + 2).toNatClampNeg) _ hw) rfl gL_law_X7_part hdV_X7_part hz87 (zF_7 cy hz87) rfl rfl ⟨by first | exact Nat.le_of_ble_eq_true rfl | (show _ ≤ 600096; first | omega | (simp only [rm_L_send, rm_L_pass, rm_L_gather, rm_L_part, rm_L_crash, rm_L_restart, rm_L_about, rm_L_table, rm_L_mark, rm_L_entry, rm_L_primary]; omega)), by first | exact Nat.le_of_ble_eq_true rfl | (show _ ≤ 7301352; first | omega | (simp only [rm_L_send, rm_L_pass, rm_L_gather, rm_L_part, rm_L_crash, rm_L_restart, rm_L_about, rm_L_table, rm_L_mark, rm_L_entry, rm_L_primary]; omega))⟩ (Nat.le_of_ble_eq_true rfl) ⟨by first | exact Nat.le_of_ble_eq_true rfl | (show _ ≤ 600096; first | omega | (simp only [rm_L_send, rm_L_pass, rm_L_gather, rm_L_part, rm_L_crash, rm_L_restart, rm_L_about, rm_L_table, rm_L_mark, rm_L_entry, rm_L_primary]; omega)), by first | exact Nat.le_of_ble_eq_true rfl | (show _ ≤ 7301352; first | omega | (simp only [rm_L_send, rm_L_pass, rm_L_gather, rm_L_part, rm_L_crash, rm_L_restart, rm_L_about, rm_L_table, rm_L_mark, rm_L_entry, rm_L_primary]; omega))⟩ ⟨by rfl, by rfl⟩ rfl (fun S88 hw => ?_)
            refine zg_aload_n (q := 419) C0 3 dL_law_418 rfl rfl ?_
            refine zg_callVi (q := 422) C0 [] [] dL_law_419 (fun sz => a_X7_thrown l D cy Z S88 sz x2 _ hw) rfl gL_law_X7_thrown hdV_X7_thrown hz87 (zF_7 cy hz87) rfl rfl ⟨by first | exact Nat.le_of_ble_eq_true rfl | (show _ ≤ 600096; first | omega | (simp only [rm_L_send, rm_L_pass, rm_L_gather, rm_L_part, rm_L_crash, rm_L_restart, rm_L_about, rm_L_table, rm_L_mark, rm_L_entry, rm_L_primary]; omega)), by first | exact Nat.le_of_ble_eq_true rfl | (show _ ≤ 7301352; first | omega | (simp only [rm_L_send, rm_L_pass, rm_L_gather, rm_L_part, rm_L_crash, rm_L_restart, rm_L_about, rm_L_table, rm_L_mark, rm_L_entry, rm_L_primary]; omega))⟩ (Nat.le_of_ble_eq_true rfl) ⟨by first | exact Nat.le_of_ble_eq_true rfl | (show _ ≤ 600096; first | omega | (simp only [rm_L_send, rm_L_pass, rm_L_gather, rm_L_part, rm_L_crash, rm_L_restart, rm_L_about, rm_L_table, rm_L_mark, rm_L_entry, rm_L_primary]; omega)), by first | exact Nat.le_of_ble_eq_true rfl | (show _ ≤ 7301352; first | omega | (simp only [rm_L_send, rm_L_pass, rm_L_gather, rm_L_part, rm_L_crash, rm_L_restart, rm_L_about, rm_L_table, rm_L_mark, rm_L_entry, rm_L_primary]; omega))⟩ ⟨by rfl, by rfl⟩ rfl (fun v90 S89 hw => ?_)
            refine zg_iload (q := 424) C0 0 dL_law_422 rfl rfl ?_
            refine zg_icmp_eq (q := 427) (tgt := 429) C0 dL_law_424 rfl rfl (fun c92 => ?_) (fun c92 => ?_)
            · have hw := hw.1 c92
              refine zg_goto (tgt := 836) C0 dL_law_429 rfl ?_
              refine zg_iinc (q := 839) C0 5 dL_law_836 rfl (by decide) zc_iconst_6 rfl (fun y91 ey91 => ?_)
              have hw := hw y91 ey91
              refine zg_lv (lv' := [(4, .int y91), (5, .int v86), (0, .ref x0), (1, .ref x1), (2, .ref x2), (3, .ref x3)]) rfl ?_
              refine zg_goto (tgt := 43) C0 dL_law_839 rfl ?_
              refine zg_sub [2, 3, 4, 5, 0] rfl ?_
              refine zg_widen (k := 137 + 24 * (k + 1)) (n := 25556 + 160 * (k + 1)) (by omega) (by omega) ?_
              exact hrec _ _ _ _ hw
            · have hw := hw.2 c92
              refine zg_iconst (q := 428) C0 dL_law_427 zc_iconst_0 rfl ?_
              exact hw.elim
          · have hw := hw.2 c93
            by_cases c103 : ((xs x4.toNatClampNeg) &&& 15) = 4
            · have hw := hw.1 c103
              refine zg_tabIn (v := 4) (tgt := 432) C0 dL_law_60 c103 (by decide) (by decide) rfl rfl ?_
              refine zg_aload_n (q := 433) C0 1 dL_law_432 rfl rfl ?_
              refine zg_aload_n (q := 434) C0 0 dL_law_433 rfl rfl ?_
              refine zg_iload (q := 436) C0 4 dL_law_434 rfl rfl ?_
              refine zg_iconst (q := 437) C0 dL_law_436 zc_iconst_1 rfl ?_
              refine zg_iadd (q := 438) C0 dL_law_437 rfl ?_
              obtain ⟨hi94, hw⟩ := hw
              refine zg_sld (q := 439) C0 hX hbl hbA hi94 dL_law_438 rfl ?_
              refine zgl_calli (q := 442) (k := (137 + 24 * k + 2)) (n := (25556 + 160 * k + 12)) C0 [.ref x1, .int (xs (x4 + 1).toNatClampNeg)] [] dL_law_439 (fun sz => a_L_crash l D cy Z S sz x1 (xs (x4 + 1).toNatClampNeg) _ hl0 hw) rfl ggL_law_L_crash (zwL (i := 520) rfl) (zwL (i := 521) rfl) (zwL (i := 10) rfl) hdS_L_crash rfl ⟨by first | exact Nat.le_of_ble_eq_true rfl | (show _ ≤ 600096; first | omega | (simp only [rm_L_send, rm_L_pass, rm_L_gather, rm_L_part, rm_L_crash, rm_L_restart, rm_L_about, rm_L_table, rm_L_mark, rm_L_entry, rm_L_primary]; omega)), by first | exact Nat.le_of_ble_eq_true rfl | (show _ ≤ 7301352; first | omega | (simp only [rm_L_send, rm_L_pass, rm_L_gather, rm_L_part, rm_L_crash, rm_L_restart, rm_L_about, rm_L_table, rm_L_mark, rm_L_entry, rm_L_primary]; omega))⟩ (Nat.le_of_ble_eq_true rfl) ⟨by first | exact Nat.le_of_ble_eq_true rfl | (show _ ≤ 600096; first | omega | (simp only [rm_L_send, rm_L_pass, rm_L_gather, rm_L_part, rm_L_crash, rm_L_restart, rm_L_about, rm_L_table, rm_L_mark, rm_L_entry, rm_L_primary]; omega)), by first | exact Nat.le_of_ble_eq_true rfl | (show _ ≤ 7301352; first | omega | (simp only [rm_L_send, rm_L_pass, rm_L_gather, rm_L_part, rm_L_crash, rm_L_restart, rm_L_about, rm_L_table, rm_L_mark, rm_L_entry, rm_L_primary]; omega))⟩ ⟨by rfl, by rfl⟩ rfl (fun v96 S95 hw => ?_)
              refine zg_istore (q := 444) (lv' := [(5, .int v96), (0, .ref x0), (1, .ref x1), (2, .ref x2), (3, .ref x3), (4, .int x4)]) C0 dL_law_442 (by decide) rfl rfl ?_
              refine zg_aload_n (q := 445) C0 3 dL_law_444 rfl rfl ?_
              refine zg_aload_n (q := 446) C0 1 dL_law_445 rfl rfl ?_
              refine zg_iload (q := 448) C0 5 dL_law_446 rfl rfl ?_
              refine zg_iconst (q := 449) C0 dL_law_448 zc_iconst_1 rfl ?_
              refine zg_iadd (q := 450) C0 dL_law_449 rfl ?_
              refine zg_sld (q := 451) C0 hX hbl hbA hi94 dL_law_450 rfl ?_
              obtain ⟨hz97, hw⟩ := hw
              refine zg_callVv (q := 454) C0 [.int (xs (x4 + 1).toNatClampNeg)] [] dL_law_451 (fun sz => a_X7_crash l D cy Z S95 sz x2 (xs (x4 + 1).toNatClampNeg) _ hw) rfl gL_law_X7_crash hdV_X7_crash hz97 (zF_7 cy hz97) rfl rfl ⟨by first | exact Nat.le_of_ble_eq_true rfl | (show _ ≤ 600096; first | omega | (simp only [rm_L_send, rm_L_pass, rm_L_gather, rm_L_part, rm_L_crash, rm_L_restart, rm_L_about, rm_L_table, rm_L_mark, rm_L_entry, rm_L_primary]; omega)), by first | exact Nat.le_of_ble_eq_true rfl | (show _ ≤ 7301352; first | omega | (simp only [rm_L_send, rm_L_pass, rm_L_gather, rm_L_part, rm_L_crash, rm_L_restart, rm_L_about, rm_L_table, rm_L_mark, rm_L_entry, rm_L_primary]; omega))⟩ (Nat.le_of_ble_eq_true rfl) ⟨by first | exact Nat.le_of_ble_eq_true rfl | (show _ ≤ 600096; first | omega | (simp only [rm_L_send, rm_L_pass, rm_L_gather, rm_L_part, rm_L_crash, rm_L_restart, rm_L_about, rm_L_table, rm_L_mark, rm_L_entry, rm_L_primary]; omega)), by first | exact Nat.le_of_ble_eq_true rfl | (show _ ≤ 7301352; first | omega | (simp only [rm_L_send, rm_L_pass, rm_L_gather, rm_L_part, rm_L_crash, rm_L_restart, rm_L_about, rm_L_table, rm_L_mark, rm_L_entry, rm_L_primary]; omega))⟩ ⟨by rfl, by rfl⟩ rfl (fun S98 hw => ?_)
              refine zg_aload_n (q := 455) C0 3 dL_law_454 rfl rfl ?_
              refine zg_callVi (q := 458) C0 [] [] dL_law_455 (fun sz => a_X7_thrown l D cy Z S98 sz x2 _ hw) rfl gL_law_X7_thrown hdV_X7_thrown hz97 (zF_7 cy hz97) rfl rfl ⟨by first | exact Nat.le_of_ble_eq_true rfl | (show _ ≤ 600096; first | omega | (simp only [rm_L_send, rm_L_pass, rm_L_gather, rm_L_part, rm_L_crash, rm_L_restart, rm_L_about, rm_L_table, rm_L_mark, rm_L_entry, rm_L_primary]; omega)), by first | exact Nat.le_of_ble_eq_true rfl | (show _ ≤ 7301352; first | omega | (simp only [rm_L_send, rm_L_pass, rm_L_gather, rm_L_part, rm_L_crash, rm_L_restart, rm_L_about, rm_L_table, rm_L_mark, rm_L_entry, rm_L_primary]; omega))⟩ (Nat.le_of_ble_eq_true rfl) ⟨by first | exact Nat.le_of_ble_eq_true rfl | (show _ ≤ 600096; first | omega | (simp only [rm_L_send, rm_L_pass, rm_L_gather, rm_L_part, rm_L_crash, rm_L_restart, rm_L_about, rm_L_table, rm_L_mark, rm_L_entry, rm_L_primary]; omega)), by first | exact Nat.le_of_ble_eq_true rfl | (show _ ≤ 7301352; first | omega | (simp only [rm_L_send, rm_L_pass, rm_L_gather, rm_L_part, rm_L_crash, rm_L_restart, rm_L_about, rm_L_table, rm_L_mark, rm_L_entry, rm_L_primary]; omega))⟩ ⟨by rfl, by rfl⟩ rfl (fun v100 S99 hw => ?_)
              refine zg_iload (q := 460) C0 0 dL_law_458 rfl rfl ?_
              refine zg_icmp_eq (q := 463) (tgt := 465) C0 dL_law_460 rfl rfl (fun c102 => ?_) (fun c102 => ?_)
              · have hw := hw.1 c102
                refine zg_goto (tgt := 836) C0 dL_law_465 rfl ?_
                refine zg_iinc (q := 839) C0 5 dL_law_836 rfl (by decide) zc_iconst_6 rfl (fun y101 ey101 => ?_)
                have hw := hw y101 ey101
                refine zg_lv (lv' := [(4, .int y101), (5, .int v96), (0, .ref x0), (1, .ref x1), (2, .ref x2), (3, .ref x3)]) rfl ?_
                refine zg_goto (tgt := 43) C0 dL_law_839 rfl ?_
                refine zg_sub [2, 3, 4, 5, 0] rfl ?_
                refine zg_widen (k := 137 + 24 * (k + 1)) (n := 25556 + 160 * (k + 1)) (by omega) (by omega) ?_
                exact hrec _ _ _ _ hw
              · have hw := hw.2 c102
                refine zg_iconst (q := 464) C0 dL_law_463 zc_iconst_0 rfl ?_
                exact hw.elim
            · have hw := hw.2 c103
              by_cases c113 : ((xs x4.toNatClampNeg) &&& 15) = 5
              · have hw := hw.1 c113
                refine zg_tabIn (v := 5) (tgt := 468) C0 dL_law_60 c113 (by decide) (by decide) rfl rfl ?_
                refine zg_aload_n (q := 469) C0 1 dL_law_468 rfl rfl ?_
                refine zg_aload_n (q := 470) C0 0 dL_law_469 rfl rfl ?_
                refine zg_iload (q := 472) C0 4 dL_law_470 rfl rfl ?_
                refine zg_iconst (q := 473) C0 dL_law_472 zc_iconst_1 rfl ?_
                refine zg_iadd (q := 474) C0 dL_law_473 rfl ?_
                obtain ⟨hi104, hw⟩ := hw
                refine zg_sld (q := 475) C0 hX hbl hbA hi104 dL_law_474 rfl ?_
                refine zgl_calli (q := 478) (k := (137 + 24 * k + 2)) (n := (25556 + 160 * k + 12)) C0 [.ref x1, .int (xs (x4 + 1).toNatClampNeg)] [] dL_law_475 (fun sz => a_L_restart l D cy Z S sz x1 (xs (x4 + 1).toNatClampNeg) _ hl0 hw) rfl ggL_law_L_restart (zwL (i := 535) rfl) (zwL (i := 536) rfl) (zwL (i := 10) rfl) hdS_L_restart rfl ⟨by first | exact Nat.le_of_ble_eq_true rfl | (show _ ≤ 600096; first | omega | (simp only [rm_L_send, rm_L_pass, rm_L_gather, rm_L_part, rm_L_crash, rm_L_restart, rm_L_about, rm_L_table, rm_L_mark, rm_L_entry, rm_L_primary]; omega)), by first | exact Nat.le_of_ble_eq_true rfl | (show _ ≤ 7301352; first | omega | (simp only [rm_L_send, rm_L_pass, rm_L_gather, rm_L_part, rm_L_crash, rm_L_restart, rm_L_about, rm_L_table, rm_L_mark, rm_L_entry, rm_L_primary]; omega))⟩ (Nat.le_of_ble_eq_true rfl) ⟨by first | exact Nat.le_of_ble_eq_true rfl | (show _ ≤ 600096; first | omega | (simp only [rm_L_send, rm_L_pass, rm_L_gather, rm_L_part, rm_L_crash, rm_L_restart, rm_L_about, rm_L_table, rm_L_mark, rm_L_entry, rm_L_primary]; omega)), by first | exact Nat.le_of_ble_eq_true rfl | (show _ ≤ 7301352; first | omega | (simp only [rm_L_send, rm_L_pass, rm_L_gather, rm_L_part, rm_L_crash, rm_L_restart, rm_L_about, rm_L_table, rm_L_mark, rm_L_entry, rm_L_primary]; omega))⟩ ⟨by rfl, by rfl⟩ rfl (fun v106 S105 hw => ?_)
                refine zg_istore (q := 480) (lv' := [(5, .int v106), (0, .ref x0), (1, .ref x1), (2, .ref x2), (3, .ref x3), (4, .int x4)]) C0 dL_law_478 (by decide) rfl rfl ?_
                refine zg_aload_n (q := 481) C0 3 dL_law_480 rfl rfl ?_
                refine zg_aload_n (q := 482) C0 1 dL_law_481 rfl rfl ?_
                refine zg_iload (q := 484) C0 5 dL_law_482 rfl rfl ?_
                refine zg_iconst (q := 485) C0 dL_law_484 zc_iconst_1 rfl ?_
                refine zg_iadd (q := 486) C0 dL_law_485 rfl ?_
                refine zg_sld (q := 487) C0 hX hbl hbA hi104 dL_law_486 rfl ?_
                obtain ⟨hz107, hw⟩ := hw
                refine zg_callVv (q := 490) C0 [.int (xs (x4 + 1).toNatClampNeg)] [] dL_law_487 (fun sz => a_X7_restart l D cy Z S105 sz x2 (xs (x4 + 1).toNatClampNeg) _ hw) rfl gL_law_X7_restart hdV_X7_restart hz107 (zF_7 cy hz107) rfl rfl ⟨by first | exact Nat.le_of_ble_eq_true rfl | (show _ ≤ 600096; first | omega | (simp only [rm_L_send, rm_L_pass, rm_L_gather, rm_L_part, rm_L_crash, rm_L_restart, rm_L_about, rm_L_table, rm_L_mark, rm_L_entry, rm_L_primary]; omega)), by first | exact Nat.le_of_ble_eq_true rfl | (show _ ≤ 7301352; first | omega | (simp only [rm_L_send, rm_L_pass, rm_L_gather, rm_L_part, rm_L_crash, rm_L_restart, rm_L_about, rm_L_table, rm_L_mark, rm_L_entry, rm_L_primary]; omega))⟩ (Nat.le_of_ble_eq_true rfl) ⟨by first | exact Nat.le_of_ble_eq_true rfl | (show _ ≤ 600096; first | omega | (simp only [rm_L_send, rm_L_pass, rm_L_gather, rm_L_part, rm_L_crash, rm_L_restart, rm_L_about, rm_L_table, rm_L_mark, rm_L_entry, rm_L_primary]; omega)), by first | exact Nat.le_of_ble_eq_true rfl | (show _ ≤ 7301352; first | omega | (simp only [rm_L_send, rm_L_pass, rm_L_gather, rm_L_part, rm_L_crash, rm_L_restart, rm_L_about, rm_L_table, rm_L_mark, rm_L_entry, rm_L_primary]; omega))⟩ ⟨by rfl, by rfl⟩ rfl (fun S108 hw => ?_)
                refine zg_aload_n (q := 491) C0 3 dL_law_490 rfl rfl ?_
                refine zg_callVi (q := 494) C0 [] [] dL_law_491 (fun sz => a_X7_thrown l D cy Z S108 sz x2 _ hw) rfl gL_law_X7_thrown hdV_X7_thrown hz107 (zF_7 cy hz107) rfl rfl ⟨by first | exact Nat.le_of_ble_eq_true rfl | (show _ ≤ 600096; first | omega | (simp only [rm_L_send, rm_L_pass, rm_L_gather, rm_L_part, rm_L_crash, rm_L_restart, rm_L_about, rm_L_table, rm_L_mark, rm_L_entry, rm_L_primary]; omega)), by first | exact Nat.le_of_ble_eq_true rfl | (show _ ≤ 7301352; first | omega | (simp only [rm_L_send, rm_L_pass, rm_L_gather, rm_L_part, rm_L_crash, rm_L_restart, rm_L_about, rm_L_table, rm_L_mark, rm_L_entry, rm_L_primary]; omega))⟩ (Nat.le_of_ble_eq_true rfl) ⟨by first | exact Nat.le_of_ble_eq_true rfl | (show _ ≤ 600096; first | omega | (simp only [rm_L_send, rm_L_pass, rm_L_gather, rm_L_part, rm_L_crash, rm_L_restart, rm_L_about, rm_L_table, rm_L_mark, rm_L_entry, rm_L_primary]; omega)), by first | exact Nat.le_of_ble_eq_true rfl | (show _ ≤ 7301352; first | omega | (simp only [rm_L_send, rm_L_pass, rm_L_gather, rm_L_part, rm_L_crash, rm_L_restart, rm_L_about, rm_L_table, rm_L_mark, rm_L_entry, rm_L_primary]; omega))⟩ ⟨by rfl, by rfl⟩ rfl (fun v110 S109 hw => ?_)
                refine zg_iload (q := 496) C0 0 dL_law_494 rfl rfl ?_
                refine zg_icmp_eq (q := 499) (tgt := 501) C0 dL_law_496 rfl rfl (fun c112 => ?_) (fun c112 => ?_)
                · have hw := hw.1 c112
                  refine zg_goto (tgt := 836) C0 dL_law_501 rfl ?_
                  refine zg_iinc (q := 839) C0 5 dL_law_836 rfl (by decide) zc_iconst_6 rfl (fun y111 ey111 => ?_)
                  have hw := hw y111 ey111
                  refine zg_lv (lv' := [(4, .int y111), (5, .int v106), (0, .ref x0), (1, .ref x1), (2, .ref x2), (3, .ref x3)]) rfl ?_
                  refine zg_goto (tgt := 43) C0 dL_law_839 rfl ?_
                  refine zg_sub [2, 3, 4, 5, 0] rfl ?_
                  refine zg_widen (k := 137 + 24 * (k + 1)) (n := 25556 + 160 * (k + 1)) (by omega) (by omega) ?_
                  exact hrec _ _ _ _ hw
                · have hw := hw.2 c112
                  refine zg_iconst (q := 500) C0 dL_law_499 zc_iconst_0 rfl ?_
                  exact hw.elim
              · have hw := hw.2 c113
                by_cases c130 : ((xs x4.toNatClampNeg) &&& 15) = 6
                · have hw := hw.1 c130
                  refine zg_tabIn (v := 6) (tgt := 504) C0 dL_law_60 c130 (by decide) (by decide) rfl rfl ?_
                  refine zg_aload_n (q := 505) C0 1 dL_law_504 rfl rfl ?_
                  refine zg_aload_n (q := 506) C0 0 dL_law_505 rfl rfl ?_
                  refine zg_iload (q := 508) C0 4 dL_law_506 rfl rfl ?_
                  refine zg_iconst (q := 509) C0 dL_law_508 zc_iconst_1 rfl ?_
                  refine zg_iadd (q := 510) C0 dL_law_509 rfl ?_
                  obtain ⟨hi114, hw⟩ := hw
                  refine zg_sld (q := 511) C0 hX hbl hbA hi114 dL_law_510 rfl ?_
                  refine zg_aload_n (q := 512) C0 0 dL_law_511 rfl rfl ?_
                  refine zg_iload (q := 514) C0 4 dL_law_512 rfl rfl ?_
                  refine zg_iconst (q := 515) C0 dL_law_514 zc_iconst_2 rfl ?_
                  refine zg_iadd (q := 516) C0 dL_law_515 rfl ?_
                  obtain ⟨hi115, hw⟩ := hw
                  refine zg_sld (q := 517) C0 hX hbl hbA hi115 dL_law_516 rfl ?_
                  refine zg_aload_n (q := 518) C0 3 dL_law_517 rfl rfl ?_
                  refine zgl_calli (q := 521) (k := (137 + 24 * k + 2)) (n := (25556 + 160 * k + 12)) C0 [.ref x1, .int (xs (x4 + 1).toNatClampNeg), .int (xs (x4 + 2).toNatClampNeg), .ref x3] [] dL_law_518 (fun sz => a_L_about l D cy Z S sz x1 (xs (x4 + 1).toNatClampNeg) (xs (x4 + 2).toNatClampNeg) x3 _ hl0 hw) rfl ggL_law_L_about (zwL (i := 546) rfl) (zwL (i := 547) rfl) (zwL (i := 10) rfl) hdS_L_about rfl ⟨by first | exact Nat.le_of_ble_eq_true rfl | (show _ ≤ 600096; first | omega | (simp only [rm_L_send, rm_L_pass, rm_L_gather, rm_L_part, rm_L_crash, rm_L_restart, rm_L_about, rm_L_table, rm_L_mark, rm_L_entry, rm_L_primary]; omega)), by first | exact Nat.le_of_ble_eq_true rfl | (show _ ≤ 7301352; first | omega | (simp only [rm_L_send, rm_L_pass, rm_L_gather, rm_L_part, rm_L_crash, rm_L_restart, rm_L_about, rm_L_table, rm_L_mark, rm_L_entry, rm_L_primary]; omega))⟩ (Nat.le_of_ble_eq_true rfl) ⟨by first | exact Nat.le_of_ble_eq_true rfl | (show _ ≤ 600096; first | omega | (simp only [rm_L_send, rm_L_pass, rm_L_gather, rm_L_part, rm_L_crash, rm_L_restart, rm_L_about, rm_L_table, rm_L_mark, rm_L_entry, rm_L_primary]; omega)), by first | exact Nat.le_of_ble_eq_true rfl | (show _ ≤ 7301352; first | omega | (simp only [rm_L_send, rm_L_pass, rm_L_gather, rm_L_part, rm_L_crash, rm_L_restart, rm_L_about, rm_L_table, rm_L_mark, rm_L_entry, rm_L_primary]; omega))⟩ ⟨by rfl, by rfl⟩ rfl (fun v117 S116 hw => ?_)
                  refine zg_istore (q := 523) (lv' := [(5, .int v117), (0, .ref x0), (1, .ref x1), (2, .ref x2), (3, .ref x3), (4, .int x4)]) C0 dL_law_521 (by decide) rfl rfl ?_
                  refine zg_aload_n (q := 524) C0 3 dL_law_523 rfl rfl ?_
                  refine zg_aload_n (q := 525) C0 1 dL_law_524 rfl rfl ?_
                  refine zg_iload (q := 527) C0 5 dL_law_525 rfl rfl ?_
                  refine zg_iconst (q := 528) C0 dL_law_527 zc_iconst_1 rfl ?_
                  refine zg_iadd (q := 529) C0 dL_law_528 rfl ?_
                  refine zg_sld (q := 530) C0 hX hbl hbA hi114 dL_law_529 rfl ?_
                  refine zg_aload_n (q := 531) C0 1 dL_law_530 rfl rfl ?_
                  refine zg_iload (q := 533) C0 5 dL_law_531 rfl rfl ?_
                  refine zg_iconst (q := 534) C0 dL_law_533 zc_iconst_2 rfl ?_
                  refine zg_iadd (q := 535) C0 dL_law_534 rfl ?_
                  refine zg_sld (q := 536) C0 hX hbl hbA hi115 dL_law_535 rfl ?_
                  obtain ⟨hz118, hw⟩ := hw
                  refine zg_callVi (q := 539) C0 [.int (xs (x4 + 1).toNatClampNeg), .int (xs (x4 + 2).toNatClampNeg)] [] dL_law_536 (fun sz => a_X7_about l D cy Z S116 sz x2 (xs (x4 + 1).toNatClampNeg) (xs (x4 + 2).toNatClampNeg) _ hw) rfl gL_law_X7_about hdV_X7_about hz118 (zF_7 cy hz118) rfl rfl ⟨by first | exact Nat.le_of_ble_eq_true rfl | (show _ ≤ 600096; first | omega | (simp only [rm_L_send, rm_L_pass, rm_L_gather, rm_L_part, rm_L_crash, rm_L_restart, rm_L_about, rm_L_table, rm_L_mark, rm_L_entry, rm_L_primary]; omega)), by first | exact Nat.le_of_ble_eq_true rfl | (show _ ≤ 7301352; first | omega | (simp only [rm_L_send, rm_L_pass, rm_L_gather, rm_L_part, rm_L_crash, rm_L_restart, rm_L_about, rm_L_table, rm_L_mark, rm_L_entry, rm_L_primary]; omega))⟩ (Nat.le_of_ble_eq_true rfl) ⟨by first | exact Nat.le_of_ble_eq_true rfl | (show _ ≤ 600096; first | omega | (simp only [rm_L_send, rm_L_pass, rm_L_gather, rm_L_part, rm_L_crash, rm_L_restart, rm_L_about, rm_L_table, rm_L_mark, rm_L_entry, rm_L_primary]; omega)), by first | exact Nat.le_of_ble_eq_true rfl | (show _ ≤ 7301352; first | omega | (simp only [rm_L_send, rm_L_pass, rm_L_gather, rm_L_part, rm_L_crash, rm_L_restart, rm_L_about, rm_L_table, rm_L_mark, rm_L_entry, rm_L_primary]; omega))⟩ ⟨by rfl, by rfl⟩ rfl (fun v120 S119 hw => ?_)
                  refine zg_istore (q := 541) (lv' := [(6, .int v120), (5, .int v117), (0, .ref x0), (1, .ref x1), (2, .ref x2), (3, .ref x3), (4, .int x4)]) C0 dL_law_539 (by decide) rfl rfl ?_
                  refine zg_aload_n (q := 542) C0 4 dL_law_541 rfl rfl ?_
                  refine zg_callVi (q := 545) C0 [] [] dL_law_542 (fun sz => a_X7_thrown l D cy Z S119 sz x2 _ hw) rfl gL_law_X7_thrown hdV_X7_thrown hz118 (zF_7 cy hz118) rfl rfl ⟨by first | exact Nat.le_of_ble_eq_true rfl | (show _ ≤ 600096; first | omega | (simp only [rm_L_send, rm_L_pass, rm_L_gather, rm_L_part, rm_L_crash, rm_L_restart, rm_L_about, rm_L_table, rm_L_mark, rm_L_entry, rm_L_primary]; omega)), by first | exact Nat.le_of_ble_eq_true rfl | (show _ ≤ 7301352; first | omega | (simp only [rm_L_send, rm_L_pass, rm_L_gather, rm_L_part, rm_L_crash, rm_L_restart, rm_L_about, rm_L_table, rm_L_mark, rm_L_entry, rm_L_primary]; omega))⟩ (Nat.le_of_ble_eq_true rfl) ⟨by first | exact Nat.le_of_ble_eq_true rfl | (show _ ≤ 600096; first | omega | (simp only [rm_L_send, rm_L_pass, rm_L_gather, rm_L_part, rm_L_crash, rm_L_restart, rm_L_about, rm_L_table, rm_L_mark, rm_L_entry, rm_L_primary]; omega)), by first | exact Nat.le_of_ble_eq_true rfl | (show _ ≤ 7301352; first | omega | (simp only [rm_L_send, rm_L_pass, rm_L_gather, rm_L_part, rm_L_crash, rm_L_restart, rm_L_about, rm_L_table, rm_L_mark, rm_L_entry, rm_L_primary]; omega))⟩ ⟨by rfl, by rfl⟩ rfl (fun v122 S121 hw => ?_)
                  refine zg_iload (q := 547) C0 1 dL_law_545 rfl rfl ?_
                  refine zg_icmp_eq (q := 550) (tgt := 552) C0 dL_law_547 rfl rfl (fun c129 => ?_) (fun c129 => ?_)
                  · have hw := hw.1 c129
                    refine zg_iload (q := 554) C0 1 dL_law_552 rfl rfl ?_
                    refine zg_if_ne (q := 557) (tgt := 569) C0 dL_law_554 rfl rfl (fun c128 => ?_) (fun c128 => ?_)
                    · have hw := hw.1 c128
                      refine zg_goto (tgt := 836) C0 dL_law_569 rfl ?_
                      refine zg_iinc (q := 839) C0 6 dL_law_836 rfl (by decide) zc_iconst_6 rfl (fun y123 ey123 => ?_)
                      have hw := hw y123 ey123
                      refine zg_lv (lv' := [(4, .int y123), (6, .int v120), (5, .int v117), (0, .ref x0), (1, .ref x1), (2, .ref x2), (3, .ref x3)]) rfl ?_
                      refine zg_goto (tgt := 43) C0 dL_law_839 rfl ?_
                      refine zg_sub [3, 4, 5, 6, 0] rfl ?_
                      refine zg_widen (k := 137 + 24 * (k + 1)) (n := 25556 + 160 * (k + 1)) (by omega) (by omega) ?_
                      exact hrec _ _ _ _ hw
                    · have hw := hw.2 c128
                      refine zg_aload_n (q := 558) C0 5 dL_law_557 rfl rfl ?_
                      refine zg_iconst (q := 559) C0 dL_law_558 zc_iconst_0 rfl ?_
                      obtain ⟨hz124, hw⟩ := hw
                      obtain ⟨hi125, hw⟩ := hw
                      refine zg_lald (q := 560) C0 dL_law_559 hz124 hi125 rfl ?_
                      refine zg_iload (q := 562) C0 0 dL_law_560 rfl rfl ?_
                      refine zg_i2l (q := 563) C0 dL_law_562 rfl ?_
                      refine zg_lcmp (q := 564) C0 dL_law_563 rfl ?_
                      refine zg_if_eq (q := 567) (tgt := 569) C0 dL_law_564 rfl rfl (fun c127 => ?_) (fun c127 => ?_)
                      · have hw := hw.1 c127
                        refine zg_goto (tgt := 836) C0 dL_law_569 rfl ?_
                        refine zg_iinc (q := 839) C0 6 dL_law_836 rfl (by decide) zc_iconst_6 rfl (fun y126 ey126 => ?_)
                        have hw := hw y126 ey126
                        refine zg_lv (lv' := [(4, .int y126), (6, .int v120), (5, .int v117), (0, .ref x0), (1, .ref x1), (2, .ref x2), (3, .ref x3)]) rfl ?_
                        refine zg_goto (tgt := 43) C0 dL_law_839 rfl ?_
                        refine zg_sub [3, 4, 5, 6, 0] rfl ?_
                        refine zg_widen (k := 137 + 24 * (k + 1)) (n := 25556 + 160 * (k + 1)) (by omega) (by omega) ?_
                        exact hrec _ _ _ _ hw
                      · have hw := hw.2 c127
                        refine zg_iconst (q := 568) C0 dL_law_567 zc_iconst_0 rfl ?_
                        exact hw.elim
                  · have hw := hw.2 c129
                    refine zg_iconst (q := 551) C0 dL_law_550 zc_iconst_0 rfl ?_
                    exact hw.elim
                · have hw := hw.2 c130
                  by_cases c147 : ((xs x4.toNatClampNeg) &&& 15) = 7
                  · have hw := hw.1 c147
                    refine zg_tabIn (v := 7) (tgt := 572) C0 dL_law_60 c147 (by decide) (by decide) rfl rfl ?_
                    refine zg_aload_n (q := 573) C0 1 dL_law_572 rfl rfl ?_
                    refine zg_aload_n (q := 574) C0 0 dL_law_573 rfl rfl ?_
                    refine zg_iload (q := 576) C0 4 dL_law_574 rfl rfl ?_
                    refine zg_iconst (q := 577) C0 dL_law_576 zc_iconst_1 rfl ?_
                    refine zg_iadd (q := 578) C0 dL_law_577 rfl ?_
                    obtain ⟨hi131, hw⟩ := hw
                    refine zg_sld (q := 579) C0 hX hbl hbA hi131 dL_law_578 rfl ?_
                    refine zg_aload_n (q := 580) C0 0 dL_law_579 rfl rfl ?_
                    refine zg_iload (q := 582) C0 4 dL_law_580 rfl rfl ?_
                    refine zg_iconst (q := 583) C0 dL_law_582 zc_iconst_2 rfl ?_
                    refine zg_iadd (q := 584) C0 dL_law_583 rfl ?_
                    obtain ⟨hi132, hw⟩ := hw
                    refine zg_sld (q := 585) C0 hX hbl hbA hi132 dL_law_584 rfl ?_
                    refine zg_aload_n (q := 586) C0 3 dL_law_585 rfl rfl ?_
                    refine zgl_calli (q := 589) (k := (137 + 24 * k + 2)) (n := (25556 + 160 * k + 12)) C0 [.ref x1, .int (xs (x4 + 1).toNatClampNeg), .int (xs (x4 + 2).toNatClampNeg), .ref x3] [] dL_law_586 (fun sz => a_L_table l D cy Z S sz x1 (xs (x4 + 1).toNatClampNeg) (xs (x4 + 2).toNatClampNeg) x3 _ hl0 hw) rfl ggL_law_L_table (zwL (i := 561) rfl) (zwL (i := 562) rfl) (zwL (i := 10) rfl) hdS_L_table rfl ⟨by first | exact Nat.le_of_ble_eq_true rfl | (show _ ≤ 600096; first | omega | (simp only [rm_L_send, rm_L_pass, rm_L_gather, rm_L_part, rm_L_crash, rm_L_restart, rm_L_about, rm_L_table, rm_L_mark, rm_L_entry, rm_L_primary]; omega)), by first | exact Nat.le_of_ble_eq_true rfl | (show _ ≤ 7301352; first | omega | (simp only [rm_L_send, rm_L_pass, rm_L_gather, rm_L_part, rm_L_crash, rm_L_restart, rm_L_about, rm_L_table, rm_L_mark, rm_L_entry, rm_L_primary]; omega))⟩ (Nat.le_of_ble_eq_true rfl) ⟨by first | exact Nat.le_of_ble_eq_true rfl | (show _ ≤ 600096; first | omega | (simp only [rm_L_send, rm_L_pass, rm_L_gather, rm_L_part, rm_L_crash, rm_L_restart, rm_L_about, rm_L_table, rm_L_mark, rm_L_entry, rm_L_primary]; omega)), by first | exact Nat.le_of_ble_eq_true rfl | (show _ ≤ 7301352; first | omega | (simp only [rm_L_send, rm_L_pass, rm_L_gather, rm_L_part, rm_L_crash, rm_L_restart, rm_L_about, rm_L_table, rm_L_mark, rm_L_entry, rm_L_primary]; omega))⟩ ⟨by rfl, by rfl⟩ rfl (fun v134 S133 hw => ?_)
                    refine zg_istore (q := 591) (lv' := [(5, .int v134), (0, .ref x0), (1, .ref x1), (2, .ref x2), (3, .ref x3), (4, .int x4)]) C0 dL_law_589 (by decide) rfl rfl ?_
                    refine zg_aload_n (q := 592) C0 3 dL_law_591 rfl rfl ?_
                    refine zg_aload_n (q := 593) C0 1 dL_law_592 rfl rfl ?_
                    refine zg_iload (q := 595) C0 5 dL_law_593 rfl rfl ?_
                    refine zg_iconst (q := 596) C0 dL_law_595 zc_iconst_1 rfl ?_
                    refine zg_iadd (q := 597) C0 dL_law_596 rfl ?_
                    refine zg_sld (q := 598) C0 hX hbl hbA hi131 dL_law_597 rfl ?_
                    refine zg_aload_n (q := 599) C0 1 dL_law_598 rfl rfl ?_
                    refine zg_iload (q := 601) C0 5 dL_law_599 rfl rfl ?_
                    refine zg_iconst (q := 602) C0 dL_law_601 zc_iconst_2 rfl ?_
                    refine zg_iadd (q := 603) C0 dL_law_602 rfl ?_
                    refine zg_sld (q := 604) C0 hX hbl hbA hi132 dL_law_603 rfl ?_
                    obtain ⟨hz135, hw⟩ := hw
                    refine zg_callVl (q := 607) C0 [.int (xs (x4 + 1).toNatClampNeg), .int (xs (x4 + 2).toNatClampNeg)] [] dL_law_604 (fun sz => a_X7_table l D cy Z S133 sz x2 (xs (x4 + 1).toNatClampNeg) (xs (x4 + 2).toNatClampNeg) _ hw) rfl gL_law_X7_table hdV_X7_table hz135 (zF_7 cy hz135) rfl rfl ⟨by first | exact Nat.le_of_ble_eq_true rfl | (show _ ≤ 600096; first | omega | (simp only [rm_L_send, rm_L_pass, rm_L_gather, rm_L_part, rm_L_crash, rm_L_restart, rm_L_about, rm_L_table, rm_L_mark, rm_L_entry, rm_L_primary]; omega)), by first | exact Nat.le_of_ble_eq_true rfl | (show _ ≤ 7301352; first | omega | (simp only [rm_L_send, rm_L_pass, rm_L_gather, rm_L_part, rm_L_crash, rm_L_restart, rm_L_about, rm_L_table, rm_L_mark, rm_L_entry, rm_L_primary]; omega))⟩ (Nat.le_of_ble_eq_true rfl) ⟨by first | exact Nat.le_of_ble_eq_true rfl | (show _ ≤ 600096; first | omega | (simp only [rm_L_send, rm_L_pass, rm_L_gather, rm_L_part, rm_L_crash, rm_L_restart, rm_L_about, rm_L_table, rm_L_mark, rm_L_entry, rm_L_primary]; omega)), by first | exact Nat.le_of_ble_eq_true rfl | (show _ ≤ 7301352; first | omega | (simp only [rm_L_send, rm_L_pass, rm_L_gather, rm_L_part, rm_L_crash, rm_L_restart, rm_L_about, rm_L_table, rm_L_mark, rm_L_entry, rm_L_primary]; omega))⟩ ⟨by rfl, by rfl⟩ rfl (fun v137 S136 hw => ?_)
                    refine zg_lstore (q := 609) (lv' := [(6, .long v137), (5, .int v134), (0, .ref x0), (1, .ref x1), (2, .ref x2), (3, .ref x3), (4, .int x4)]) C0 dL_law_607 (by decide) rfl rfl ?_
                    refine zg_aload_n (q := 610) C0 4 dL_law_609 rfl rfl ?_
                    refine zg_callVi (q := 613) C0 [] [] dL_law_610 (fun sz => a_X7_thrown l D cy Z S136 sz x2 _ hw) rfl gL_law_X7_thrown hdV_X7_thrown hz135 (zF_7 cy hz135) rfl rfl ⟨by first | exact Nat.le_of_ble_eq_true rfl | (show _ ≤ 600096; first | omega | (simp only [rm_L_send, rm_L_pass, rm_L_gather, rm_L_part, rm_L_crash, rm_L_restart, rm_L_about, rm_L_table, rm_L_mark, rm_L_entry, rm_L_primary]; omega)), by first | exact Nat.le_of_ble_eq_true rfl | (show _ ≤ 7301352; first | omega | (simp only [rm_L_send, rm_L_pass, rm_L_gather, rm_L_part, rm_L_crash, rm_L_restart, rm_L_about, rm_L_table, rm_L_mark, rm_L_entry, rm_L_primary]; omega))⟩ (Nat.le_of_ble_eq_true rfl) ⟨by first | exact Nat.le_of_ble_eq_true rfl | (show _ ≤ 600096; first | omega | (simp only [rm_L_send, rm_L_pass, rm_L_gather, rm_L_part, rm_L_crash, rm_L_restart, rm_L_about, rm_L_table, rm_L_mark, rm_L_entry, rm_L_primary]; omega)), by first | exact Nat.le_of_ble_eq_true rfl | (show _ ≤ 7301352; first | omega | (simp only [rm_L_send, rm_L_pass, rm_L_gather, rm_L_part, rm_L_crash, rm_L_restart, rm_L_about, rm_L_table, rm_L_mark, rm_L_entry, rm_L_primary]; omega))⟩ ⟨by rfl, by rfl⟩ rfl (fun v139 S138 hw => ?_)
                    refine zg_iload (q := 615) C0 1 dL_law_613 rfl rfl ?_
                    refine zg_icmp_eq (q := 618) (tgt := 620) C0 dL_law_615 rfl rfl (fun c146 => ?_) (fun c146 => ?_)
                    · have hw := hw.1 c146
                      refine zg_iload (q := 622) C0 1 dL_law_620 rfl rfl ?_
                      refine zg_if_ne (q := 625) (tgt := 636) C0 dL_law_622 rfl rfl (fun c145 => ?_) (fun c145 => ?_)
                      · have hw := hw.1 c145
                        refine zg_goto (tgt := 836) C0 dL_law_636 rfl ?_
                        refine zg_iinc (q := 839) C0 6 dL_law_836 rfl (by decide) zc_iconst_6 rfl (fun y140 ey140 => ?_)
                        have hw := hw y140 ey140
                        refine zg_lv (lv' := [(4, .int y140), (6, .long v137), (5, .int v134), (0, .ref x0), (1, .ref x1), (2, .ref x2), (3, .ref x3)]) rfl ?_
                        refine zg_goto (tgt := 43) C0 dL_law_839 rfl ?_
                        refine zg_sub [3, 4, 5, 6, 0] rfl ?_
                        refine zg_widen (k := 137 + 24 * (k + 1)) (n := 25556 + 160 * (k + 1)) (by omega) (by omega) ?_
                        exact hrec _ _ _ _ hw
                      · have hw := hw.2 c145
                        refine zg_aload_n (q := 626) C0 5 dL_law_625 rfl rfl ?_
                        refine zg_iconst (q := 627) C0 dL_law_626 zc_iconst_0 rfl ?_
                        obtain ⟨hz141, hw⟩ := hw
                        obtain ⟨hi142, hw⟩ := hw
                        refine zg_lald (q := 628) C0 dL_law_627 hz141 hi142 rfl ?_
                        refine zg_lload (q := 630) C0 0 dL_law_628 rfl rfl ?_
                        refine zg_lcmp (q := 631) C0 dL_law_630 rfl ?_
                        refine zg_if_eq (q := 634) (tgt := 636) C0 dL_law_631 rfl rfl (fun c144 => ?_) (fun c144 => ?_)
                        · have hw := hw.1 c144
                          refine zg_goto (tgt := 836) C0 dL_law_636 rfl ?_
                          refine zg_iinc (q := 839) C0 6 dL_law_836 rfl (by decide) zc_iconst_6 rfl (fun y143 ey143 => ?_)
                          have hw := hw y143 ey143
                          refine zg_lv (lv' := [(4, .int y143), (6, .long v137), (5, .int v134), (0, .ref x0), (1, .ref x1), (2, .ref x2), (3, .ref x3)]) rfl ?_
                          refine zg_goto (tgt := 43) C0 dL_law_839 rfl ?_
                          refine zg_sub [3, 4, 5, 6, 0] rfl ?_
                          refine zg_widen (k := 137 + 24 * (k + 1)) (n := 25556 + 160 * (k + 1)) (by omega) (by omega) ?_
                          exact hrec _ _ _ _ hw
                        · have hw := hw.2 c144
                          refine zg_iconst (q := 635) C0 dL_law_634 zc_iconst_0 rfl ?_
                          exact hw.elim
                    · have hw := hw.2 c146
                      refine zg_iconst (q := 619) C0 dL_law_618 zc_iconst_0 rfl ?_
                      exact hw.elim
                  · have hw := hw.2 c147
                    by_cases c163 : ((xs x4.toNatClampNeg) &&& 15) = 8
                    · have hw := hw.1 c163
                      refine zg_tabIn (v := 8) (tgt := 639) C0 dL_law_60 c163 (by decide) (by decide) rfl rfl ?_
                      refine zg_aload_n (q := 640) C0 1 dL_law_639 rfl rfl ?_
                      refine zg_aload_n (q := 641) C0 0 dL_law_640 rfl rfl ?_
                      refine zg_iload (q := 643) C0 4 dL_law_641 rfl rfl ?_
                      refine zg_iconst (q := 644) C0 dL_law_643 zc_iconst_1 rfl ?_
                      refine zg_iadd (q := 645) C0 dL_law_644 rfl ?_
                      obtain ⟨hi148, hw⟩ := hw
                      refine zg_sld (q := 646) C0 hX hbl hbA hi148 dL_law_645 rfl ?_
                      refine zg_aload_n (q := 647) C0 3 dL_law_646 rfl rfl ?_
                      refine zgl_calli (q := 650) (k := (137 + 24 * k + 1)) (n := (25556 + 160 * k + 6)) C0 [.ref x1, .int (xs (x4 + 1).toNatClampNeg), .ref x3] [] dL_law_647 (fun sz => a_L_mark l D cy Z S sz x1 (xs (x4 + 1).toNatClampNeg) x3 _ hl0 hw) rfl ggL_law_L_mark (zwL (i := 573) rfl) (zwL (i := 574) rfl) (zwL (i := 10) rfl) hdS_L_mark rfl ⟨by first | exact Nat.le_of_ble_eq_true rfl | (show _ ≤ 600096; first | omega | (simp only [rm_L_send, rm_L_pass, rm_L_gather, rm_L_part, rm_L_crash, rm_L_restart, rm_L_about, rm_L_table, rm_L_mark, rm_L_entry, rm_L_primary]; omega)), by first | exact Nat.le_of_ble_eq_true rfl | (show _ ≤ 7301352; first | omega | (simp only [rm_L_send, rm_L_pass, rm_L_gather, rm_L_part, rm_L_crash, rm_L_restart, rm_L_about, rm_L_table, rm_L_mark, rm_L_entry, rm_L_primary]; omega))⟩ (Nat.le_of_ble_eq_true rfl) ⟨by first | exact Nat.le_of_ble_eq_true rfl | (show _ ≤ 600096; first | omega | (simp only [rm_L_send, rm_L_pass, rm_L_gather, rm_L_part, rm_L_crash, rm_L_restart, rm_L_about, rm_L_table, rm_L_mark, rm_L_entry, rm_L_primary]; omega)), by first | exact Nat.le_of_ble_eq_true rfl | (show _ ≤ 7301352; first | omega | (simp only [rm_L_send, rm_L_pass, rm_L_gather, rm_L_part, rm_L_crash, rm_L_restart, rm_L_about, rm_L_table, rm_L_mark, rm_L_entry, rm_L_primary]; omega))⟩ ⟨by rfl, by rfl⟩ rfl (fun v150 S149 hw => ?_)
                      refine zg_istore (q := 652) (lv' := [(5, .int v150), (0, .ref x0), (1, .ref x1), (2, .ref x2), (3, .ref x3), (4, .int x4)]) C0 dL_law_650 (by decide) rfl rfl ?_
                      refine zg_aload_n (q := 653) C0 3 dL_law_652 rfl rfl ?_
                      refine zg_aload_n (q := 654) C0 1 dL_law_653 rfl rfl ?_
                      refine zg_iload (q := 656) C0 5 dL_law_654 rfl rfl ?_
                      refine zg_iconst (q := 657) C0 dL_law_656 zc_iconst_1 rfl ?_
                      refine zg_iadd (q := 658) C0 dL_law_657 rfl ?_
                      refine zg_sld (q := 659) C0 hX hbl hbA hi148 dL_law_658 rfl ?_
                      obtain ⟨hz151, hw⟩ := hw
                      refine zg_callVl (q := 662) C0 [.int (xs (x4 + 1).toNatClampNeg)] [] dL_law_659 (fun sz => a_X7_mark l D cy Z S149 sz x2 (xs (x4 + 1).toNatClampNeg) _ hw) rfl gL_law_X7_mark hdV_X7_mark hz151 (zF_7 cy hz151) rfl rfl ⟨by first | exact Nat.le_of_ble_eq_true rfl | (show _ ≤ 600096; first | omega | (simp only [rm_L_send, rm_L_pass, rm_L_gather, rm_L_part, rm_L_crash, rm_L_restart, rm_L_about, rm_L_table, rm_L_mark, rm_L_entry, rm_L_primary]; omega)), by first | exact Nat.le_of_ble_eq_true rfl | (show _ ≤ 7301352; first | omega | (simp only [rm_L_send, rm_L_pass, rm_L_gather, rm_L_part, rm_L_crash, rm_L_restart, rm_L_about, rm_L_table, rm_L_mark, rm_L_entry, rm_L_primary]; omega))⟩ (Nat.le_of_ble_eq_true rfl) ⟨by first | exact Nat.le_of_ble_eq_true rfl | (show _ ≤ 600096; first | omega | (simp only [rm_L_send, rm_L_pass, rm_L_gather, rm_L_part, rm_L_crash, rm_L_restart, rm_L_about, rm_L_table, rm_L_mark, rm_L_entry, rm_L_primary]; omega)), by first | exact Nat.le_of_ble_eq_true rfl | (show _ ≤ 7301352; first | omega | (simp only [rm_L_send, rm_L_pass, rm_L_gather, rm_L_part, rm_L_crash, rm_L_restart, rm_L_about, rm_L_table, rm_L_mark, rm_L_entry, rm_L_primary]; omega))⟩ ⟨by rfl, by rfl⟩ rfl (fun v153 S152 hw => ?_)
                      refine zg_lstore (q := 664) (lv' := [(6, .long v153), (5, .int v150), (0, .ref x0), (1, .ref x1), (2, .ref x2), (3, .ref x3), (4, .int x4)]) C0 dL_law_662 (by decide) rfl rfl ?_
                      refine zg_aload_n (q := 665) C0 4 dL_law_664 rfl rfl ?_
                      refine zg_callVi (q := 668) C0 [] [] dL_law_665 (fun sz => a_X7_thrown l D cy Z S152 sz x2 _ hw) rfl gL_law_X7_thrown hdV_X7_thrown hz151 (zF_7 cy hz151) rfl rfl ⟨by first | exact Nat.le_of_ble_eq_true rfl | (show _ ≤ 600096; first | omega | (simp only [rm_L_send, rm_L_pass, rm_L_gather, rm_L_part, rm_L_crash, rm_L_restart, rm_L_about, rm_L_table, rm_L_mark, rm_L_entry, rm_L_primary]; omega)), by first | exact Nat.le_of_ble_eq_true rfl | (show _ ≤ 7301352; first | omega | (simp only [rm_L_send, rm_L_pass, rm_L_gather, rm_L_part, rm_L_crash, rm_L_restart, rm_L_about, rm_L_table, rm_L_mark, rm_L_entry, rm_L_primary]; omega))⟩ (Nat.le_of_ble_eq_true rfl) ⟨by first | exact Nat.le_of_ble_eq_true rfl | (show _ ≤ 600096; first | omega | (simp only [rm_L_send, rm_L_pass, rm_L_gather, rm_L_part, rm_L_crash, rm_L_restart, rm_L_about, rm_L_table, rm_L_mark, rm_L_entry, rm_L_primary]; omega)), by first | exact Nat.le_of_ble_eq_true rfl | (show _ ≤ 7301352; first | omega | (simp only [rm_L_send, rm_L_pass, rm_L_gather, rm_L_part, rm_L_crash, rm_L_restart, rm_L_about, rm_L_table, rm_L_mark, rm_L_entry, rm_L_primary]; omega))⟩ ⟨by rfl, by rfl⟩ rfl (fun v155 S154 hw => ?_)
                      refine zg_iload (q := 670) C0 1 dL_law_668 rfl rfl ?_
                      refine zg_icmp_eq (q := 673) (tgt := 675) C0 dL_law_670 rfl rfl (fun c162 => ?_) (fun c162 => ?_)
                      · have hw := hw.1 c162
                        refine zg_iload (q := 677) C0 1 dL_law_675 rfl rfl ?_
                        refine zg_if_ne (q := 680) (tgt := 691) C0 dL_law_677 rfl rfl (fun c161 => ?_) (fun c161 => ?_)
                        · have hw := hw.1 c161
                          refine zg_goto (tgt := 836) C0 dL_law_691 rfl ?_
                          refine zg_iinc (q := 839) C0 6 dL_law_836 rfl (by decide) zc_iconst_6 rfl (fun y156 ey156 => ?_)
                          have hw := hw y156 ey156
                          refine zg_lv (lv' := [(4, .int y156), (6, .long v153), (5, .int v150), (0, .ref x0), (1, .ref x1), (2, .ref x2), (3, .ref x3)]) rfl ?_
                          refine zg_goto (tgt := 43) C0 dL_law_839 rfl ?_
                          refine zg_sub [3, 4, 5, 6, 0] rfl ?_
                          refine zg_widen (k := 137 + 24 * (k + 1)) (n := 25556 + 160 * (k + 1)) (by omega) (by omega) ?_
                          exact hrec _ _ _ _ hw
                        · have hw := hw.2 c161
                          refine zg_aload_n (q := 681) C0 5 dL_law_680 rfl rfl ?_
                          refine zg_iconst (q := 682) C0 dL_law_681 zc_iconst_0 rfl ?_
                          obtain ⟨hz157, hw⟩ := hw
                          obtain ⟨hi158, hw⟩ := hw
                          refine zg_lald (q := 683) C0 dL_law_682 hz157 hi158 rfl ?_
                          refine zg_lload (q := 685) C0 0 dL_law_683 rfl rfl ?_
                          refine zg_lcmp (q := 686) C0 dL_law_685 rfl ?_
                          refine zg_if_eq (q := 689) (tgt := 691) C0 dL_law_686 rfl rfl (fun c160 => ?_) (fun c160 => ?_)
                          · have hw := hw.1 c160
                            refine zg_goto (tgt := 836) C0 dL_law_691 rfl ?_
                            refine zg_iinc (q := 839) C0 6 dL_law_836 rfl (by decide) zc_iconst_6 rfl (fun y159 ey159 => ?_)
                            have hw := hw y159 ey159
                            refine zg_lv (lv' := [(4, .int y159), (6, .long v153), (5, .int v150), (0, .ref x0), (1, .ref x1), (2, .ref x2), (3, .ref x3)]) rfl ?_
                            refine zg_goto (tgt := 43) C0 dL_law_839 rfl ?_
                            refine zg_sub [3, 4, 5, 6, 0] rfl ?_
                            refine zg_widen (k := 137 + 24 * (k + 1)) (n := 25556 + 160 * (k + 1)) (by omega) (by omega) ?_
                            exact hrec _ _ _ _ hw
                          · have hw := hw.2 c160
                            refine zg_iconst (q := 690) C0 dL_law_689 zc_iconst_0 rfl ?_
                            exact hw.elim
                      · have hw := hw.2 c162
                        refine zg_iconst (q := 674) C0 dL_law_673 zc_iconst_0 rfl ?_
                        exact hw.elim
                    · have hw := hw.2 c163
                      by_cases c181 : ((xs x4.toNatClampNeg) &&& 15) = 9
                      · have hw := hw.1 c181
                        refine zg_tabIn (v := 9) (tgt := 694) C0 dL_law_60 c181 (by decide) (by decide) rfl rfl ?_
                        refine zg_aload_n (q := 695) C0 1 dL_law_694 rfl rfl ?_
                        refine zg_aload_n (q := 696) C0 0 dL_law_695 rfl rfl ?_
                        refine zg_iload (q := 698) C0 4 dL_law_696 rfl rfl ?_
                        refine zg_iconst (q := 699) C0 dL_law_698 zc_iconst_1 rfl ?_
                        refine zg_iadd (q := 700) C0 dL_law_699 rfl ?_
                        obtain ⟨hi164, hw⟩ := hw
                        refine zg_sld (q := 701) C0 hX hbl hbA hi164 dL_law_700 rfl ?_
                        refine zg_aload_n (q := 702) C0 0 dL_law_701 rfl rfl ?_
                        refine zg_iload (q := 704) C0 4 dL_law_702 rfl rfl ?_
                        refine zg_iconst (q := 705) C0 dL_law_704 zc_iconst_2 rfl ?_
                        refine zg_iadd (q := 706) C0 dL_law_705 rfl ?_
                        obtain ⟨hi165, hw⟩ := hw
                        refine zg_sld (q := 707) C0 hX hbl hbA hi165 dL_law_706 rfl ?_
                        refine zg_aload_n (q := 708) C0 0 dL_law_707 rfl rfl ?_
                        refine zg_iload (q := 710) C0 4 dL_law_708 rfl rfl ?_
                        refine zg_iconst (q := 711) C0 dL_law_710 zc_iconst_3 rfl ?_
                        refine zg_iadd (q := 712) C0 dL_law_711 rfl ?_
                        obtain ⟨hi166, hw⟩ := hw
                        refine zg_sld (q := 713) C0 hX hbl hbA hi166 dL_law_712 rfl ?_
                        refine zg_aload_n (q := 714) C0 3 dL_law_713 rfl rfl ?_
                        refine zgl_calli (q := 717) (k := (137 + 24 * k + 2)) (n := (25556 + 160 * k + 12)) C0 [.ref x1, .int (xs (x4 + 1).toNatClampNeg), .int (xs (x4 + 2).toNatClampNeg), .int (xs (x4 + 3).toNatClampNeg), .ref x3] [] dL_law_714 (fun sz => a_L_entry l D cy Z S sz x1 (xs (x4 + 1).toNatClampNeg) (xs (x4 + 2).toNatClampNeg) (xs (x4 + 3).toNatClampNeg) x3 _ hl0 hw) rfl ggL_law_L_entry (zwL (i := 585) rfl) (zwL (i := 586) rfl) (zwL (i := 10) rfl) hdS_L_entry rfl ⟨by first | exact Nat.le_of_ble_eq_true rfl | (show _ ≤ 600096; first | omega | (simp only [rm_L_send, rm_L_pass, rm_L_gather, rm_L_part, rm_L_crash, rm_L_restart, rm_L_about, rm_L_table, rm_L_mark, rm_L_entry, rm_L_primary]; omega)), by first | exact Nat.le_of_ble_eq_true rfl | (show _ ≤ 7301352; first | omega | (simp only [rm_L_send, rm_L_pass, rm_L_gather, rm_L_part, rm_L_crash, rm_L_restart, rm_L_about, rm_L_table, rm_L_mark, rm_L_entry, rm_L_primary]; omega))⟩ (Nat.le_of_ble_eq_true rfl) ⟨by first | exact Nat.le_of_ble_eq_true rfl | (show _ ≤ 600096; first | omega | (simp only [rm_L_send, rm_L_pass, rm_L_gather, rm_L_part, rm_L_crash, rm_L_restart, rm_L_about, rm_L_table, rm_L_mark, rm_L_entry, rm_L_primary]; omega)), by first | exact Nat.le_of_ble_eq_true rfl | (show _ ≤ 7301352; first | omega | (simp only [rm_L_send, rm_L_pass, rm_L_gather, rm_L_part, rm_L_crash, rm_L_restart, rm_L_about, rm_L_table, rm_L_mark, rm_L_entry, rm_L_primary]; omega))⟩ ⟨by rfl, by rfl⟩ rfl (fun v168 S167 hw => ?_)
                        refine zg_istore (q := 719) (lv' := [(5, .int v168), (0, .ref x0), (1, .ref x1), (2, .ref x2), (3, .ref x3), (4, .int x4)]) C0 dL_law_717 (by decide) rfl rfl ?_
                        refine zg_aload_n (q := 720) C0 3 dL_law_719 rfl rfl ?_
                        refine zg_aload_n (q := 721) C0 1 dL_law_720 rfl rfl ?_
                        refine zg_iload (q := 723) C0 5 dL_law_721 rfl rfl ?_
                        refine zg_iconst (q := 724) C0 dL_law_723 zc_iconst_1 rfl ?_
                        refine zg_iadd (q := 725) C0 dL_law_724 rfl ?_
                        refine zg_sld (q := 726) C0 hX hbl hbA hi164 dL_law_725 rfl ?_
                        refine zg_aload_n (q := 727) C0 1 dL_law_726 rfl rfl ?_
                        refine zg_iload (q := 729) C0 5 dL_law_727 rfl rfl ?_
                        refine zg_iconst (q := 730) C0 dL_law_729 zc_iconst_2 rfl ?_
                        refine zg_iadd (q := 731) C0 dL_law_730 rfl ?_
                        refine zg_sld (q := 732) C0 hX hbl hbA hi165 dL_law_731 rfl ?_
                        refine zg_aload_n (q := 733) C0 1 dL_law_732 rfl rfl ?_
                        refine zg_iload (q := 735) C0 5 dL_law_733 rfl rfl ?_
                        refine zg_iconst (q := 736) C0 dL_law_735 zc_iconst_3 rfl ?_
                        refine zg_iadd (q := 737) C0 dL_law_736 rfl ?_
                        refine zg_sld (q := 738) C0 hX hbl hbA hi166 dL_law_737 rfl ?_
                        obtain ⟨hz169, hw⟩ := hw
                        refine zg_callVl (q := 741) C0 [.int (xs (x4 + 1).toNatClampNeg), .int (xs (x4 + 2).toNatClampNeg), .int (xs (x4 + 3).toNatClampNeg)] [] dL_law_738 (fun sz => a_X7_entry l D cy Z S167 sz x2 (xs (x4 + 1).toNatClampNeg) (xs (x4 + 2).toNatClampNeg) (xs (x4 + 3).toNatClampNeg) _ hw) rfl gL_law_X7_entry hdV_X7_entry hz169 (zF_7 cy hz169) rfl rfl ⟨by first | exact Nat.le_of_ble_eq_true rfl | (show _ ≤ 600096; first | omega | (simp only [rm_L_send, rm_L_pass, rm_L_gather, rm_L_part, rm_L_crash, rm_L_restart, rm_L_about, rm_L_table, rm_L_mark, rm_L_entry, rm_L_primary]; omega)), by first | exact Nat.le_of_ble_eq_true rfl | (show _ ≤ 7301352; first | omega | (simp only [rm_L_send, rm_L_pass, rm_L_gather, rm_L_part, rm_L_crash, rm_L_restart, rm_L_about, rm_L_table, rm_L_mark, rm_L_entry, rm_L_primary]; omega))⟩ (Nat.le_of_ble_eq_true rfl) ⟨by first | exact Nat.le_of_ble_eq_true rfl | (show _ ≤ 600096; first | omega | (simp only [rm_L_send, rm_L_pass, rm_L_gather, rm_L_part, rm_L_crash, rm_L_restart, rm_L_about, rm_L_table, rm_L_mark, rm_L_entry, rm_L_primary]; omega)), by first | exact Nat.le_of_ble_eq_true rfl | (show _ ≤ 7301352; first | omega | (simp only [rm_L_send, rm_L_pass, rm_L_gather, rm_L_part, rm_L_crash, rm_L_restart, rm_L_about, rm_L_table, rm_L_mark, rm_L_entry, rm_L_primary]; omega))⟩ ⟨by rfl, by rfl⟩ rfl (fun v171 S170 hw => ?_)
                        refine zg_lstore (q := 743) (lv' := [(6, .long v171), (5, .int v168), (0, .ref x0), (1, .ref x1), (2, .ref x2), (3, .ref x3), (4, .int x4)]) C0 dL_law_741 (by decide) rfl rfl ?_
                        refine zg_aload_n (q := 744) C0 4 dL_law_743 rfl rfl ?_
                        refine zg_callVi (q := 747) C0 [] [] dL_law_744 (fun sz => a_X7_thrown l D cy Z S170 sz x2 _ hw) rfl gL_law_X7_thrown hdV_X7_thrown hz169 (zF_7 cy hz169) rfl rfl ⟨by first | exact Nat.le_of_ble_eq_true rfl | (show _ ≤ 600096; first | omega | (simp only [rm_L_send, rm_L_pass, rm_L_gather, rm_L_part, rm_L_crash, rm_L_restart, rm_L_about, rm_L_table, rm_L_mark, rm_L_entry, rm_L_primary]; omega)), by first | exact Nat.le_of_ble_eq_true rfl | (show _ ≤ 7301352; first | omega | (simp only [rm_L_send, rm_L_pass, rm_L_gather, rm_L_part, rm_L_crash, rm_L_restart, rm_L_about, rm_L_table, rm_L_mark, rm_L_entry, rm_L_primary]; omega))⟩ (Nat.le_of_ble_eq_true rfl) ⟨by first | exact Nat.le_of_ble_eq_true rfl | (show _ ≤ 600096; first | omega | (simp only [rm_L_send, rm_L_pass, rm_L_gather, rm_L_part, rm_L_crash, rm_L_restart, rm_L_about, rm_L_table, rm_L_mark, rm_L_entry, rm_L_primary]; omega)), by first | exact Nat.le_of_ble_eq_true rfl | (show _ ≤ 7301352; first | omega | (simp only [rm_L_send, rm_L_pass, rm_L_gather, rm_L_part, rm_L_crash, rm_L_restart, rm_L_about, rm_L_table, rm_L_mark, rm_L_entry, rm_L_primary]; omega))⟩ ⟨by rfl, by rfl⟩ rfl (fun v173 S172 hw => ?_)
                        refine zg_iload (q := 749) C0 1 dL_law_747 rfl rfl ?_
                        refine zg_icmp_eq (q := 752) (tgt := 754) C0 dL_law_749 rfl rfl (fun c180 => ?_) (fun c180 => ?_)
                        · have hw := hw.1 c180
                          refine zg_iload (q := 756) C0 1 dL_law_754 rfl rfl ?_
                          refine zg_if_ne (q := 759) (tgt := 770) C0 dL_law_756 rfl rfl (fun c179 => ?_) (fun c179 => ?_)
                          · have hw := hw.1 c179
                            refine zg_goto (tgt := 836) C0 dL_law_770 rfl ?_
                            refine zg_iinc (q := 839) C0 6 dL_law_836 rfl (by decide) zc_iconst_6 rfl (fun y174 ey174 => ?_)
                            have hw := hw y174 ey174
                            refine zg_lv (lv' := [(4, .int y174), (6, .long v171), (5, .int v168), (0, .ref x0), (1, .ref x1), (2, .ref x2), (3, .ref x3)]) rfl ?_
                            refine zg_goto (tgt := 43) C0 dL_law_839 rfl ?_
                            refine zg_sub [3, 4, 5, 6, 0] rfl ?_
                            refine zg_widen (k := 137 + 24 * (k + 1)) (n := 25556 + 160 * (k + 1)) (by omega) (by omega) ?_
                            exact hrec _ _ _ _ hw
                          · have hw := hw.2 c179
                            refine zg_aload_n (q := 760) C0 5 dL_law_759 rfl rfl ?_
                            refine zg_iconst (q := 761) C0 dL_law_760 zc_iconst_0 rfl ?_
                            obtain ⟨hz175, hw⟩ := hw
                            obtain ⟨hi176, hw⟩ := hw
                            refine zg_lald (q := 762) C0 dL_law_761 hz175 hi176 rfl ?_
                            refine zg_lload (q := 764) C0 0 dL_law_762 rfl rfl ?_
                            refine zg_lcmp (q := 765) C0 dL_law_764 rfl ?_
                            refine zg_if_eq (q := 768) (tgt := 770) C0 dL_law_765 rfl rfl (fun c178 => ?_) (fun c178 => ?_)
                            · have hw := hw.1 c178
                              refine zg_goto (tgt := 836) C0 dL_law_770 rfl ?_
                              refine zg_iinc (q := 839) C0 6 dL_law_836 rfl (by decide) zc_iconst_6 rfl (fun y177 ey177 => ?_)
                              have hw := hw y177 ey177
                              refine zg_lv (lv' := [(4, .int y177), (6, .long v171), (5, .int v168), (0, .ref x0), (1, .ref x1), (2, .ref x2), (3, .ref x3)]) rfl ?_
                              refine zg_goto (tgt := 43) C0 dL_law_839 rfl ?_
                              refine zg_sub [3, 4, 5, 6, 0] rfl ?_
                              refine zg_widen (k := 137 + 24 * (k + 1)) (n := 25556 + 160 * (k + 1)) (by omega) (by omega) ?_
                              exact hrec _ _ _ _ hw
                            · have hw := hw.2 c178
                              refine zg_iconst (q := 769) C0 dL_law_768 zc_iconst_0 rfl ?_
                              exact hw.elim
                        · have hw := hw.2 c180
                          refine zg_iconst (q := 753) C0 dL_law_752 zc_iconst_0 rfl ?_
                          exact hw.elim
                      · have hw := hw.2 c181
                        by_cases c200 : ((xs x4.toNatClampNeg) &&& 15) = 10
                        · have hw := hw.1 c200
                          refine zg_tabIn (v := 10) (tgt := 773) C0 dL_law_60 c200 (by decide) (by decide) rfl rfl ?_
                          refine zg_aload_n (q := 774) C0 1 dL_law_773 rfl rfl ?_
                          refine zg_aload_n (q := 775) C0 0 dL_law_774 rfl rfl ?_
                          refine zg_iload (q := 777) C0 4 dL_law_775 rfl rfl ?_
                          refine zg_iconst (q := 778) C0 dL_law_777 zc_iconst_1 rfl ?_
                          refine zg_iadd (q := 779) C0 dL_law_778 rfl ?_
                          obtain ⟨hi182, hw⟩ := hw
                          refine zg_sld (q := 780) C0 hX hbl hbA hi182 dL_law_779 rfl ?_
                          refine zg_aload_n (q := 781) C0 3 dL_law_780 rfl rfl ?_
                          refine zgl_calli (q := 784) (k := (137 + 24 * k + 1)) (n := (25556 + 160 * k + 6)) C0 [.ref x1, .int (xs (x4 + 1).toNatClampNeg), .ref x3] [] dL_law_781 (fun sz => a_L_primary l D cy Z S sz x1 (xs (x4 + 1).toNatClampNeg) x3 _ hl0 hw) rfl ggL_law_L_primary (zwL (i := 606) rfl) (zwL (i := 607) rfl) (zwL (i := 10) rfl) hdS_L_primary rfl ⟨by first | exact Nat.le_of_ble_eq_true rfl | (show _ ≤ 600096; first | omega | (simp only [rm_L_send, rm_L_pass, rm_L_gather, rm_L_part, rm_L_crash, rm_L_restart, rm_L_about, rm_L_table, rm_L_mark, rm_L_entry, rm_L_primary]; omega)), by first | exact Nat.le_of_ble_eq_true rfl | (show _ ≤ 7301352; first | omega | (simp only [rm_L_send, rm_L_pass, rm_L_gather, rm_L_part, rm_L_crash, rm_L_restart, rm_L_about, rm_L_table, rm_L_mark, rm_L_entry, rm_L_primary]; omega))⟩ (Nat.le_of_ble_eq_true rfl) ⟨by first | exact Nat.le_of_ble_eq_true rfl | (show _ ≤ 600096; first | omega | (simp only [rm_L_send, rm_L_pass, rm_L_gather, rm_L_part, rm_L_crash, rm_L_restart, rm_L_about, rm_L_table, rm_L_mark, rm_L_entry, rm_L_primary]; omega)), by first | exact Nat.le_of_ble_eq_true rfl | (show _ ≤ 7301352; first | omega | (simp only [rm_L_send, rm_L_pass, rm_L_gather, rm_L_part, rm_L_crash, rm_L_restart, rm_L_about, rm_L_table, rm_L_mark, rm_L_entry, rm_L_primary]; omega))⟩ ⟨by rfl, by rfl⟩ rfl (fun v184 S183 hw => ?_)
                          refine zg_istore (q := 786) (lv' := [(5, .int v184), (0, .ref x0), (1, .ref x1), (2, .ref x2), (3, .ref x3), (4, .int x4)]) C0 dL_law_784 (by decide) rfl rfl ?_
                          refine zg_aload_n (q := 787) C0 3 dL_law_786 rfl rfl ?_
                          refine zg_aload_n (q := 788) C0 1 dL_law_787 rfl rfl ?_
                          refine zg_iload (q := 790) C0 5 dL_law_788 rfl rfl ?_
                          refine zg_iconst (q := 791) C0 dL_law_790 zc_iconst_1 rfl ?_
                          refine zg_iadd (q := 792) C0 dL_law_791 rfl ?_
                          refine zg_sld (q := 793) C0 hX hbl hbA hi182 dL_law_792 rfl ?_
                          obtain ⟨hz185, hw⟩ := hw
                          refine zg_callVi (q := 796) C0 [.int (xs (x4 + 1).toNatClampNeg)] [] dL_law_793 (fun sz => a_X7_primary l D cy Z S183 sz x2 (xs (x4 + 1).toNatClampNeg) _ hw) rfl gL_law_X7_primary hdV_X7_primary hz185 (zF_7 cy hz185) rfl rfl ⟨by first | exact Nat.le_of_ble_eq_true rfl | (show _ ≤ 600096; first | omega | (simp only [rm_L_send, rm_L_pass, rm_L_gather, rm_L_part, rm_L_crash, rm_L_restart, rm_L_about, rm_L_table, rm_L_mark, rm_L_entry, rm_L_primary]; omega)), by first | exact Nat.le_of_ble_eq_true rfl | (show _ ≤ 7301352; first | omega | (simp only [rm_L_send, rm_L_pass, rm_L_gather, rm_L_part, rm_L_crash, rm_L_restart, rm_L_about, rm_L_table, rm_L_mark, rm_L_entry, rm_L_primary]; omega))⟩ (Nat.le_of_ble_eq_true rfl) ⟨by first | exact Nat.le_of_ble_eq_true rfl | (show _ ≤ 600096; first | omega | (simp only [rm_L_send, rm_L_pass, rm_L_gather, rm_L_part, rm_L_crash, rm_L_restart, rm_L_about, rm_L_table, rm_L_mark, rm_L_entry, rm_L_primary]; omega)), by first | exact Nat.le_of_ble_eq_true rfl | (show _ ≤ 7301352; first | omega | (simp only [rm_L_send, rm_L_pass, rm_L_gather, rm_L_part, rm_L_crash, rm_L_restart, rm_L_about, rm_L_table, rm_L_mark, rm_L_entry, rm_L_primary]; omega))⟩ ⟨by rfl, by rfl⟩ rfl (fun v187 S186 hw => ?_)
                          refine zg_istore (q := 798) (lv' := [(6, .int v187), (5, .int v184), (0, .ref x0), (1, .ref x1), (2, .ref x2), (3, .ref x3), (4, .int x4)]) C0 dL_law_796 (by decide) rfl rfl ?_
                          refine zg_aload_n (q := 799) C0 4 dL_law_798 rfl rfl ?_
                          refine zg_callVi (q := 802) C0 [] [] dL_law_799 (fun sz => a_X7_thrown l D cy Z S186 sz x2 _ hw) rfl gL_law_X7_thrown hdV_X7_thrown hz185 (zF_7 cy hz185) rfl rfl ⟨by first | exact Nat.le_of_ble_eq_true rfl | (show _ ≤ 600096; first | omega | (simp only [rm_L_send, rm_L_pass, rm_L_gather, rm_L_part, rm_L_crash, rm_L_restart, rm_L_about, rm_L_table, rm_L_mark, rm_L_entry, rm_L_primary]; omega)), by first | exact Nat.le_of_ble_eq_true rfl | (show _ ≤ 7301352; first | omega | (simp only [rm_L_send, rm_L_pass, rm_L_gather, rm_L_part, rm_L_crash, rm_L_restart, rm_L_about, rm_L_table, rm_L_mark, rm_L_entry, rm_L_primary]; omega))⟩ (Nat.le_of_ble_eq_true rfl) ⟨by first | exact Nat.le_of_ble_eq_true rfl | (show _ ≤ 600096; first | omega | (simp only [rm_L_send, rm_L_pass, rm_L_gather, rm_L_part, rm_L_crash, rm_L_restart, rm_L_about, rm_L_table, rm_L_mark, rm_L_entry, rm_L_primary]; omega)), by first | exact Nat.le_of_ble_eq_true rfl | (show _ ≤ 7301352; first | omega | (simp only [rm_L_send, rm_L_pass, rm_L_gather, rm_L_part, rm_L_crash, rm_L_restart, rm_L_about, rm_L_table, rm_L_mark, rm_L_entry, rm_L_primary]; omega))⟩ ⟨by rfl, by rfl⟩ rfl (fun v189 S188 hw => ?_)
                          refine zg_iload (q := 804) C0 1 dL_law_802 rfl rfl ?_
                          refine zg_icmp_eq (q := 807) (tgt := 809) C0 dL_law_804 rfl rfl (fun c199 => ?_) (fun c199 => ?_)
                          · have hw := hw.1 c199
                            refine zg_iload (q := 811) C0 1 dL_law_809 rfl rfl ?_
                            refine zg_if_ne (q := 814) (tgt := 833) C0 dL_law_811 rfl rfl (fun c198 => ?_) (fun c198 => ?_)
                            · have hw := hw.1 c198
                              refine zg_goto (tgt := 836) C0 dL_law_833 rfl ?_
                              refine zg_iinc (q := 839) C0 6 dL_law_836 rfl (by decide) zc_iconst_6 rfl (fun y190 ey190 => ?_)
                              have hw := hw y190 ey190
                              refine zg_lv (lv' := [(4, .int y190), (6, .int v187), (5, .int v184), (0, .ref x0), (1, .ref x1), (2, .ref x2), (3, .ref x3)]) rfl ?_
                              refine zg_goto (tgt := 43) C0 dL_law_839 rfl ?_
                              refine zg_sub [3, 4, 5, 6, 0] rfl ?_
                              refine zg_widen (k := 137 + 24 * (k + 1)) (n := 25556 + 160 * (k + 1)) (by omega) (by omega) ?_
                              exact hrec _ _ _ _ hw
                            · have hw := hw.2 c198
                              refine zg_aload_n (q := 815) C0 5 dL_law_814 rfl rfl ?_
                              refine zg_iconst (q := 816) C0 dL_law_815 zc_iconst_0 rfl ?_
                              obtain ⟨hz191, hw⟩ := hw
                              obtain ⟨hi192, hw⟩ := hw
                              refine zg_lald (q := 817) C0 dL_law_816 hz191 hi192 rfl ?_
                              refine zg_iload (q := 819) C0 0 dL_law_817 rfl rfl ?_
                              refine zg_if_eq (q := 822) (tgt := 826) C0 dL_law_819 rfl rfl (fun c197 => ?_) (fun c197 => ?_)
                              · have hw := hw.1 c197
                                refine zg_lconst (q := 827) (v := 0) C0 dL_law_826 (by decide) rfl ?_
                                refine zg_lcmp (q := 828) C0 dL_law_827 rfl ?_
                                refine zg_if_eq (q := 831) (tgt := 833) C0 dL_law_828 rfl rfl (fun c194 => ?_) (fun c194 => ?_)
                                · have hw := hw.1 c194
                                  refine zg_goto (tgt := 836) C0 dL_law_833 rfl ?_
                                  refine zg_iinc (q := 839) C0 6 dL_law_836 rfl (by decide) zc_iconst_6 rfl (fun y193 ey193 => ?_)
                                  have hw := hw y193 ey193
                                  refine zg_lv (lv' := [(4, .int y193), (6, .int v187), (5, .int v184), (0, .ref x0), (1, .ref x1), (2, .ref x2), (3, .ref x3)]) rfl ?_
                                  refine zg_goto (tgt := 43) C0 dL_law_839 rfl ?_
                                  refine zg_sub [3, 4, 5, 6, 0] rfl ?_
                                  refine zg_widen (k := 137 + 24 * (k + 1)) (n := 25556 + 160 * (k + 1)) (by omega) (by omega) ?_
                                  exact hrec _ _ _ _ hw
                                · have hw := hw.2 c194
                                  refine zg_iconst (q := 832) C0 dL_law_831 zc_iconst_0 rfl ?_
                                  exact hw.elim
                              · have hw := hw.2 c197
                                refine zg_lconst (q := 823) (v := 1) C0 dL_law_822 (by decide) rfl ?_
                                refine zg_goto (tgt := 827) C0 dL_law_823 rfl ?_
                                refine zg_lcmp (q := 828) C0 dL_law_827 rfl ?_
                                refine zg_if_eq (q := 831) (tgt := 833) C0 dL_law_828 rfl rfl (fun c196 => ?_) (fun c196 => ?_)
                                · have hw := hw.1 c196
                                  refine zg_goto (tgt := 836) C0 dL_law_833 rfl ?_
                                  refine zg_iinc (q := 839) C0 6 dL_law_836 rfl (by decide) zc_iconst_6 rfl (fun y195 ey195 => ?_)
                                  have hw := hw y195 ey195
                                  refine zg_lv (lv' := [(4, .int y195), (6, .int v187), (5, .int v184), (0, .ref x0), (1, .ref x1), (2, .ref x2), (3, .ref x3)]) rfl ?_
                                  refine zg_goto (tgt := 43) C0 dL_law_839 rfl ?_
                                  refine zg_sub [3, 4, 5, 6, 0] rfl ?_
                                  refine zg_widen (k := 137 + 24 * (k + 1)) (n := 25556 + 160 * (k + 1)) (by omega) (by omega) ?_
                                  exact hrec _ _ _ _ hw
                                · have hw := hw.2 c196
                                  refine zg_iconst (q := 832) C0 dL_law_831 zc_iconst_0 rfl ?_
                                  exact hw.elim
                          · have hw := hw.2 c199
                            refine zg_iconst (q := 808) C0 dL_law_807 zc_iconst_0 rfl ?_
                            exact hw.elim
                        · have hw := hw.2 c200
                          refine zg_tabOut (tgt := 836) C0 dL_law_60 (by have n0 := zneT c49 (show (0 : Int32).toInt = 0 from by decide); have n1 := zneT c66 (show (1 : Int32).toInt = 1 from by decide); have n2 := zneT c82 (show (2 : Int32).toInt = 2 from by decide); have n3 := zneT c93 (show (3 : Int32).toInt = 3 from by decide); have n4 := zneT c103 (show (4 : Int32).toInt = 4 from by decide); have n5 := zneT c113 (show (5 : Int32).toInt = 5 from by decide); have n6 := zneT c130 (show (6 : Int32).toInt = 6 from by decide); have n7 := zneT c147 (show (7 : Int32).toInt = 7 from by decide); have n8 := zneT c163 (show (8 : Int32).toInt = 8 from by decide); have n9 := zneT c181 (show (9 : Int32).toInt = 9 from by decide); have n10 := zneT c200 (show (10 : Int32).toInt = 10 from by decide); omega) rfl ?_
                          refine zg_iinc (q := 839) C0 4 dL_law_836 rfl (by decide) zc_iconst_6 rfl (fun y201 ey201 => ?_)
                          have hw := hw y201 ey201
                          refine zg_lv (lv' := [(4, .int y201), (0, .ref x0), (1, .ref x1), (2, .ref x2), (3, .ref x3)]) rfl ?_
                          refine zg_goto (tgt := 43) C0 dL_law_839 rfl ?_
                          refine zg_sub [1, 2, 3, 4, 0] rfl ?_
                          refine zg_widen (k := 137 + 24 * (k + 1)) (n := 25556 + 160 * (k + 1)) (by omega) (by omega) ?_
                          exact hrec _ _ _ _ hw
theorem aL_L_law_43 {p : Program} {l : Launch} {e : Env} {s : State} {m : MethodId} {args : Array Value} {below : List Frame} {meth : Method} {c : Code} {D : va_G} {cy : Nat → ClassId} {A : Nat → Prop} {Q : State → Prop} (C0 : zC p s m args meth c cL_law 8 wsL_law RL D cy A ret) (hl0 : l.stackTraces = false) {x0 x1 x2 x3 : Nat} {L : Nat} {xs : Nat → Int32} {K : zZ → zS → Prop} (hX : va_X x0 L xs s s.heap) (hbl : x0 < s.heap.size) (hbA : ¬ A x0) (hK : ∀ Z S, K Z S → zG p l e rm_L_law s m args below meth c D cy A 8 1313 33396 Q Z S 842 [] []) : ∀ k x4 Z S, wL_L_law_43 L xs x0 x1 x2 x3 K k x4 Z S → zG p l e rm_L_law s m args below meth c D cy A 8 (137 + 24 * k) (25556 + 160 * k) Q Z S 43 [(0, .ref x0), (1, .ref x1), (2, .ref x2), (3, .ref x3), (4, .int x4)] [] := by
  intro k x4 Z S hw
  obtain ⟨n, hw⟩ := hw
  induction n generalizing k x4 Z S with
  | zero => exact hw.elim
  | succ n ih => exact ab_L_law_43 C0 hl0 hX hbl hbA hK (fun k x4 Z S hw => ih k x4 Z S hw) hw
def w_L_law (x0 L : Nat) (xs : Nat → Int32) (Kf : zZ → zS → Prop) (Z : zZ) (S : zS) : Prop :=
  ∀ b1, b1 ∉ zL Z → ∀ (Z3 : zZ) (S4 : zS), Z3 = zalZ Z b1 6 4 → S4 = zalS S b1 → w_X6_init Z3 b1 (zcell L xs 0) (zcell L xs 1) S4 (fun (Z7 : zZ) (S6 : zS) => ∀ b8, b8 ∉ zL Z7 → ∀ (Z10 : zZ) (S11 : zS), Z10 = zalZ Z7 b8 7 36 → S11 = zalS S6 b8 → w_X7_init Z10 b8 (zcell L xs 0) (zcell L xs 1) S11 (fun (Z14 : zZ) (S13 : zS) => ∀ b15, b15 ∉ zL Z14 → ∀ (Z17 : zZ) (S18 : zS), Z17 = zalZ Z14 b15 9 1 → S18 = zalS S13 b15 → wL_L_law_43 L xs x0 b1 b8 b15 Kf 0 2 Z17 S18))
set_option maxHeartbeats 4000000 in
set_option maxRecDepth 100000 in
theorem a_L_law {p : Program} {l : Launch} {e : Env} {s : State} {m : MethodId} {args : Array Value} {below : List Frame} {meth : Method} {c : Code} {D : va_G} {cy : Nat → ClassId} {A : Nat → Prop} {Q : State → Prop} {Z : zZ} (C0 : zC p s m args meth c cL_law 8 wsL_law RL D cy A ret) (hl0 : l.stackTraces = false) {x0 L : Nat} {xs : Nat → Int32} (hX : va_X x0 L xs s s.heap) (hbl : x0 < s.heap.size) (hbA : ¬ A x0) (hL : L < 2 ^ 31) {Kf : zZ → zS → Prop} (hKf : ∀ Z S, Kf Z S → zG p l e rm_L_law s m args below meth c D cy A 8 1313 33396 Q Z S 842 [] []) {S : zS} (hw : w_L_law x0 L xs Kf Z S) : zG p l e rm_L_law s m args below meth c D cy A 8 0 0 Q Z S 0 [(0, .ref x0)] [] := by
  unfold w_L_law at hw
  refine zg_new6 (q := 3) (k := 1) (j := 4) C0 dL_law_0 (zwL (i := 0) rfl) (zwL (i := 1) rfl) (zwL (i := 2) rfl) hX_L_law_6 ⟨rfl, rfl⟩ ⟨Nat.le_of_ble_eq_true rfl, Nat.le_of_ble_eq_true rfl⟩ rfl (fun b1 ha2 Z3 S4 eZ3 eS4 => ?_)
  have hw := hw b1 ha2 Z3 S4 eZ3 eS4
  have hz5 := zk_al' eZ3
  refine zg_dup (q := 4) C0 dL_law_3 rfl rfl ?_
  refine zg_aload_n (q := 5) C0 0 dL_law_4 rfl rfl ?_
  refine zg_iconst (q := 6) C0 dL_law_5 zc_iconst_0 rfl ?_
  refine zg_cell (q := 9) C0 hX hbl hbA hL (by decide) dL_law_6 gL_law_L_cell hdS_L_cell (Nat.le_of_ble_eq_true rfl |> fun h => ⟨h, Nat.le_of_ble_eq_true rfl⟩) (Nat.le_of_ble_eq_true rfl) ⟨Nat.le_of_ble_eq_true rfl, Nat.le_of_ble_eq_true rfl⟩ rfl ?_
  refine zg_aload_n (q := 10) C0 0 dL_law_9 rfl rfl ?_
  refine zg_iconst (q := 11) C0 dL_law_10 zc_iconst_1 rfl ?_
  refine zg_cell (q := 14) C0 hX hbl hbA hL (by decide) dL_law_11 gL_law_L_cell hdS_L_cell (Nat.le_of_ble_eq_true rfl |> fun h => ⟨h, Nat.le_of_ble_eq_true rfl⟩) (Nat.le_of_ble_eq_true rfl) ⟨Nat.le_of_ble_eq_true rfl, Nat.le_of_ble_eq_true rfl⟩ rfl ?_
  refine zg_makeI (q := 17) (k := 102) (n := 7871) C0 [.int (zcell L xs 0), .int (zcell L xs 1)] [.ref b1] dL_law_14 (fun sz => a_X6_init l D cy Z3 S4 sz b1 (zcell L xs 0) (zcell L xs 1) _ hw) rfl gL_law_X6_init hdS_X6_init (zwL (i := 2) rfl) (zwL (i := 12) rfl) (zwL (i := 13) rfl) rfl rfl ⟨Nat.le_of_ble_eq_true rfl, Nat.le_of_ble_eq_true rfl⟩ (Nat.le_of_ble_eq_true rfl) ⟨Nat.le_of_ble_eq_true rfl, Nat.le_of_ble_eq_true rfl⟩ ⟨rfl, rfl⟩ rfl (fun Z7 S6 hw => ?_)
  refine zg_astore_n (q := 18) (lv' := [(1, .ref b1), (0, .ref x0)]) C0 dL_law_17 (by decide) rfl rfl ?_
  refine zg_new7 (q := 21) (k := 103) (j := 7907) C0 dL_law_18 (zwL (i := 3) rfl) (zwL (i := 4) rfl) (zwL (i := 5) rfl) hX_L_law_7 ⟨rfl, rfl⟩ ⟨Nat.le_of_ble_eq_true rfl, Nat.le_of_ble_eq_true rfl⟩ rfl (fun b8 ha9 Z10 S11 eZ10 eS11 => ?_)
  have hw := hw b8 ha9 Z10 S11 eZ10 eS11
  have hz12 := zk_al' eZ10
  refine zg_dup (q := 22) C0 dL_law_21 rfl rfl ?_
  refine zg_aload_n (q := 23) C0 1 dL_law_22 rfl rfl ?_
  refine zg_iconst (q := 24) C0 dL_law_23 zc_iconst_0 rfl ?_
  refine zg_cell (q := 27) C0 hX hbl hbA hL (by decide) dL_law_24 gL_law_L_cell hdS_L_cell (Nat.le_of_ble_eq_true rfl |> fun h => ⟨h, Nat.le_of_ble_eq_true rfl⟩) (Nat.le_of_ble_eq_true rfl) ⟨Nat.le_of_ble_eq_true rfl, Nat.le_of_ble_eq_true rfl⟩ rfl ?_
  refine zg_aload_n (q := 28) C0 1 dL_law_27 rfl rfl ?_
  refine zg_iconst (q := 29) C0 dL_law_28 zc_iconst_1 rfl ?_
  refine zg_cell (q := 32) C0 hX hbl hbA hL (by decide) dL_law_29 gL_law_L_cell hdS_L_cell (Nat.le_of_ble_eq_true rfl |> fun h => ⟨h, Nat.le_of_ble_eq_true rfl⟩) (Nat.le_of_ble_eq_true rfl) ⟨Nat.le_of_ble_eq_true rfl, Nat.le_of_ble_eq_true rfl⟩ rfl ?_
  refine zg_makeI (q := 35) (k := 136) (n := 25555) C0 [.int (zcell L xs 0), .int (zcell L xs 1)] [.ref b8] dL_law_32 (fun sz => a_X7_init l D cy Z10 S11 sz b8 (zcell L xs 0) (zcell L xs 1) _ hw) rfl gL_law_X7_init hdS_X7_init (zwL (i := 5) rfl) (zwL (i := 80) rfl) (zwL (i := 81) rfl) rfl rfl ⟨Nat.le_of_ble_eq_true rfl, Nat.le_of_ble_eq_true rfl⟩ (Nat.le_of_ble_eq_true rfl) ⟨Nat.le_of_ble_eq_true rfl, Nat.le_of_ble_eq_true rfl⟩ ⟨rfl, rfl⟩ rfl (fun Z14 S13 hw => ?_)
  refine zg_astore_n (q := 36) (lv' := [(2, .ref b8), (1, .ref b1), (0, .ref x0)]) C0 dL_law_35 (by decide) rfl rfl ?_
  refine zg_iconst (q := 37) C0 dL_law_36 zc_iconst_1 rfl ?_
  refine zg_newaJ (q := 39) (N' := 1) (k := 137) (j := 25556) C0 dL_law_37 (zwL (i := 6) rfl) (by decide) (by decide) (by decide) ⟨rfl, rfl⟩ ⟨Nat.le_of_ble_eq_true rfl, Nat.le_of_ble_eq_true rfl⟩ rfl (fun b15 ha16 Z17 S18 eZ17 eS18 => ?_)
  have hw := hw b15 ha16 Z17 S18 eZ17 eS18
  have hz19 := zk_al' eZ17
  refine zg_astore_n (q := 40) (lv' := [(3, .ref b15), (2, .ref b8), (1, .ref b1), (0, .ref x0)]) C0 dL_law_39 (by decide) rfl rfl ?_
  refine zg_iconst (q := 41) C0 dL_law_40 zc_iconst_2 rfl ?_
  refine zg_istore (q := 43) (lv' := [(4, .int 2), (3, .ref b15), (2, .ref b8), (1, .ref b1), (0, .ref x0)]) C0 dL_law_41 (by decide) rfl rfl ?_
  refine zg_sub [4, 3, 2, 1, 0] rfl ?_
  refine zg_widen (k := 137 + 24 * 0) (n := 25556 + 160 * 0) (Nat.le_refl _) (Nat.le_refl _) ?_
  exact aL_L_law_43 C0 hl0 hX hbl hbA hKf _ _ _ _ hw
