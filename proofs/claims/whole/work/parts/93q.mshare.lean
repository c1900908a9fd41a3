/-! the reference brings tables up to date -/
theorem keptOf_some {G : gT} {n s v p j : Nat} (hk : iv_k1 n G) (hj : j < n) (hc : kcond G s v p j = true) : keptOf G n s v p = some ((G.1 j).1 15 p, (G.1 j).2 14 p) := by
  have hc' : (G.1 j).1 4 0 = v ∧ (G.1 j).1 14 p ≠ 0 := by
    unfold kcond at hc
    rw [Bool.and_eq_true, Bool.and_eq_true, decide_eq_true_iff, decide_eq_true_iff] at hc
    exact hc.2
  refine kpf_some (fun i hi hci => ?_) hj hc n (Nat.le_refl _) (by omega)
  unfold kcond at hci
  rw [Bool.and_eq_true, Bool.and_eq_true, decide_eq_true_iff, decide_eq_true_iff] at hci
  obtain ⟨a, b⟩ := hk i j hi hj p (hci.2.1.trans hc'.1.symm) hci.2.2 hc'.2
  rw [a, b]
section
variable {Z : zZ} {S0 S : zS} {ar : Nat → Nat} {n w : Nat} {sg : Nat → Nat} {u u' : Nat → Nat → Bool} {G : gT} {i : Nat} {N : nT} {r t l : Nat}
theorem m_copy {b s : Nat} {M : nT} (H : zMV Z S0 ar n w sg u S (gN G i N)) (hi : i < n) (hb : b < n) (hbi : b ≠ i) (hM : G.1 b = M) {Qp K : zS → Prop} (k : ∀ S', zMV Z S0 ar n w sg u S' (gN G i (nCopy N M 16)) → K S') : wL_X7_share_263 Z (ar 0) (nI s) (nI b) (nI i) Qp K 0 S := by
  have hn := mV_n H
  have H0 : zMV Z S0 ar n w sg u S (gN G i (nCopy N M 0)) := by rw [nCopy_0]; exact H
  refine zlp2 (fun x S' => ∃ q, q ≤ 16 ∧ x = nI q ∧ zMV Z S0 ar n w sg u S' (gN G i (nCopy N M q))) (fun x _ => 17 - x.toNatClampNeg) (fun rec x S' hI hrec => ?_) _ S ⟨0, by omega, rfl, H0⟩
  obtain ⟨q, hq, rfl, H'⟩ := hI
  unfold wb_X7_share_263
  have hle : ((16 : Int32) ≤ nI q) ↔ 16 ≤ q := nI_leI (a := 16) (by omega) (by omega)
  rw [hle, nI_1]
  refine ⟨fun z => ?_, fun z => ⟨mV_0 H, ar 7, mq_7 H, mkk_7 H, ?_⟩⟩
  · have : q = 16 := by omega
    subst this
    exact k S' H'
  · have eb : (16 : Int32) * nI b + nI q = nI (16 * b + q) := by
      rw [← nI_add]
      exact congrArg (· + nI q) (pk_mul 16 b)
    have ei : (16 : Int32) * nI i + nI q = nI (16 * i + q) := by
      rw [← nI_add]
      exact congrArg (· + nI q) (pk_mul 16 i)
    obtain ⟨v1, c1⟩ := mv_ins H (k := 7) (j := 16 * b + q) (m := 128) (by omega) (by omega) rfl (by omega) (by omega)
    obtain ⟨v2, c2⟩ := mv_ins H (k := 7) (j := 16 * i + q) (m := 128) (by omega) (by omega) rfl (by omega) (by omega)
    have e7 : zJ S' (ar 7) (16 * b + q) = M.2 1 q := by
      have z2 := (mV_N H' hb).1.2.1.2.1 q (by omega)
      rw [g1_Nn _ _ hbi, hM] at z2
      exact z2
    rw [eb, ei]
    refine ⟨v1, v2, fun S98 e98 y e => ?_⟩
    subst e
    rw [c1, c2, e7] at e98
    have H98 := ms_J H' 1 q 7 (16 * i + q) (M.2 1 q) (by omega)
    rw [← e98, nCopy_s] at H98
    refine hrec _ _ ⟨q + 1, by omega, rfl, H98⟩ ?_
    rw [nI_clamp (by omega), nI_clamp (by omega)]
    omega
theorem nCopy_F (N M : nT) : nCopy (nsJ (nsI N 8 0 (M.1 8 0)) 0 0 (M.2 0 0)) M 16 = nCopyF N M := by
  refine Prod.ext rfl (funext fun f => funext fun j => ?_)
  show (if f = 1 ∧ j < 16 then M.2 1 j else if f = 0 ∧ j = 0 then M.2 0 0 else N.2 f j) = if f = 0 ∧ j = 0 then M.2 0 0 else if f = 1 ∧ j < 16 then M.2 1 j else N.2 f j
  by_cases h : f = 0 ∧ j = 0
  · rw [if_pos h, if_pos h, if_neg (fun z => by omega)]
  · rw [if_neg h, if_neg h]
theorem m_share {s b : Nat} (H : zMV Z S0 ar n w sg u S G) (h : gW n G t l) (ht : t < 2 ^ 19) (hl : l < 2 ^ 19) (hs : s < 2 ^ n) (hb : isFore G n s b) {Qp : zS → Prop} (k : ∀ S', zMV Z S0 ar n w sg u S' (gTab G n s b) → Qp S') : w_X7_share Z (ar 0) (nI s) S Qp := by
  have hn := mV_n H
  have hs0 : s ≠ 0 := fun e => by have := hb.2.1; rw [e, Nat.zero_testBit] at this; exact Bool.noConfusion this
  have b4 : ∀ j, j < n → (G.1 j).1 4 0 < 2 ^ 30 := fun j hj => by have := (h.2.2.1.1 j hj).2.1; omega
  have b8 : ∀ j, j < n → (G.1 j).1 8 0 < 2 ^ 30 := fun j hj => by have := (h.2.2.1.1 j hj).2.2.1; omega
  have hbm := isFore_max hb
  have vmx : ∀ v, v < n → s.testBit v = true → (∀ j, j < n → s.testBit j = true → (G.1 j).1 4 0 ≤ (G.1 v).1 4 0) → (G.1 v).1 4 0 = (G.1 b).1 4 0 := fun v hv hvs hmax => by
    have a := hmax b hb.1 hb.2.1
    have c := hbm v hv hvs
    omega
  have h9 := (h.1 b hb.1).2.1.2.2.1
  -- the tables' copies
  have h3 : ∀ B S74, zMV Z S0 ar n w sg u S74 (gN G b B) → (∀ S', zMV Z S0 ar n w sg u S' (gCopy (gN G b B) s B n) → Qp S') → wL_X7_share_210 Z (ar 0) (nI s) (nI b) Qp (fun (S106 : zS) => Qp S106) 0 S74 := fun B S74 H74 k => by
    have H0 : zMV Z S0 ar n w sg u S74 (gCopy (gN G b B) s B 0) := by rw [gCopy_0]; exact H74
    refine zlp2 (fun y S' => ∃ m, m ≤ n ∧ y = nI m ∧ zMV Z S0 ar n w sg u S' (gCopy (gN G b B) s B m)) (fun y _ => 9 - y.toNatClampNeg) (fun rec y S' hI hrec => ?_) _ S74 ⟨0, by omega, rfl, H0⟩
    obtain ⟨m, hm, rfl, H'⟩ := hI
    unfold wb_X7_share_210
    have hle : (nI n ≤ nI m) ↔ n ≤ m := nI_leI (by omega) (by omega)
    rw [(mV_n H').1, hle, nI_1]
    refine ⟨mV_0 H, fun q => ?_, fun q => ?_⟩
    · have : m = n := by omega
      subst this
      exact k S' H'
    · have hmn : m < n := by omega
      have hμ : 9 - (nI (m + 1)).toNatClampNeg < 9 - (nI m).toNatClampNeg := by rw [nI_clamp (by omega), nI_clamp (by omega)]; omega
      have zi : (nI m = nI b) ↔ m = b := nI_eq (by omega) (by have := hb.1; omega)
      have eb : (gCopy (gN G b B) s B m).1 b = B := by
        show (if b < m ∧ s.testBit b = true then nCopyF ((gN G b B).1 b) B else (gN G b B).1 b) = _
        rw [g1_Ns, nCopyF_self]
        split <;> rfl
      refine m_isIn (by omega) ?_
      rw [bt_nI _ (by omega), zi]
      refine ⟨fun q3 y e => ?_, fun q3 => ⟨fun q4 y e => ?_, fun q4 => ⟨ar 8, mq_8 H, mkk_8 H, (mv_in8 H (k := 8) (by omega) (by omega) rfl hb.1).1, (mv_in8 H (k := 8) (by omega) (by omega) rfl hmn).1, fun S85 e85 => ⟨ar 9, mq_9 H, mkk_9 H, (mv_in8 H (k := 9) (by omega) (by omega) rfl hb.1).1, (mv_in8 H (k := 9) (by omega) (by omega) rfl hmn).1, fun S91 e91 => ?_⟩⟩⟩⟩
      · subst e
        exact hrec _ _ ⟨m + 1, by omega, rfl, by rw [gCopy_s0 _ _ (z01_if.mp q3)]; exact H'⟩ hμ
      · subst e
        have hmb : s.testBit m = true := Classical.byContradiction (fun z => by rw [if_neg z] at q3; exact q3 rfl)
        refine hrec _ _ ⟨m + 1, by omega, rfl, ?_⟩ hμ
        rw [gCopy_s1 _ _ hmb, q4, g1_Ns, nCopyF_self]
        have := mn_0 H' (i := b)
        rw [eb, q4] at this
        exact this
      · have hmb : s.testBit m = true := Classical.byContradiction (fun z => by rw [if_neg z] at q3; exact q3 rfl)
        have cm := (mv_in8 H (k := 8) (by omega) (by omega) rfl hmn).2
        have cb := (mv_in8 H (k := 8) (by omega) (by omega) rfl hb.1).2
        have r8 : zI S' (ar 8) b = nI (B.1 8 0) := (mv_F (mn_0 H' (i := b)) hb.1 8 (by omega) (by omega) (by omega) (by omega)).trans (by rw [eb])
        rw [cm, cb, r8] at e85
        have H1 := mn_0 H' (i := m)
        have eM : (gCopy (gN G b B) s B m).1 m = (gN G b B).1 m := by
          show (if m < m ∧ s.testBit m = true then _ else _) = _
          rw [if_neg (fun z => by omega)]
        rw [eM] at H1
        have H85 := ms_F H1 8 (by omega) (by omega) (v := B.1 8 0) (by omega)
        have e85' : S85 = zsI S' (ar (mA 8)) m (nI (B.1 8 0)) := e85
        rw [← e85'] at H85
        have r9 : zJ S85 (ar 9) b = B.2 0 0 := by
          have z2 := (mV_N H85 hb.1).1.2.1.1
          rw [g1_Nn _ _ (Ne.symm q4), eb] at z2
          exact z2
        rw [cm, cb, r9] at e91
        have H91 := ms_J H85 0 0 9 m (B.2 0 0) (by omega)
        rw [← e91] at H91
        refine m_copy H91 hmn hb.1 (Ne.symm q4) eb (fun S101 H101 y e => ?_)
        subst e
        refine hrec _ _ ⟨m + 1, by omega, rfl, ?_⟩ hμ
        rw [gCopy_s1 _ _ hmb, ← nCopy_F]
        exact H101
  -- the foremost applies what is kept
  have h2 : ∀ S32, zMV Z S0 ar n w sg u S32 G → ∃ b34, zQ Z (ar 0) 22 = some b34 ∧ zk Z b34 8 ∧ vp_in (nI b) (zN Z b34) ∧ ∀ y38 : Int32, y38 = (zI S32 b34 (nI b).toNatClampNeg) + 1 → wL_X7_share_89 Z (ar 0) (nI s) (nI ((G.1 b).1 4 0)) (nI b) Qp (fun (S74 : zS) => wL_X7_share_210 Z (ar 0) (nI s) (nI b) Qp (fun (S106 : zS) => Qp S106) 0 S74) y38 S32 := fun S32 H32 => by
    obtain ⟨v22, c22⟩ := mv_in8 H (k := 22) (by omega) (by omega) rfl hb.1
    have e22 : zI S32 (ar 22) b = nI ((G.1 b).1 9 0) := mv_F (mn_0 H32 (i := b)) hb.1 9 (by omega) (by omega) (by omega) (by omega)
    refine ⟨ar 22, mq_22 H, mkk_22 H, v22, fun y38 e38 => ?_⟩
    rw [c22, e22, nI_1] at e38
    subst e38
    unfold gTab at k
    generalize hK : keptOf G n s ((G.1 b).1 4 0) = K at k
    generalize hB : upd2 K (100 - (G.1 b).1 9 0) (G.1 b) = B at k
    have hbt := h.2.2.1.1 b hb.1
    have H0 : zMV Z S0 ar n w sg u S32 (gN G b (G.1 b)) := mn_0 H32
    refine zlp2 (fun x S' => ∃ k' B', k' ≤ 100 ∧ x = nI (101 - k') ∧ zMV Z S0 ar n w sg u S' (gN G b B') ∧ upd2 K k' B' = B ∧ B'.1 8 0 + k' < 2 ^ 21 ∧ (∀ f j, f ≠ 8 → f ≠ 9 → B'.1 f j = (G.1 b).1 f j) ∧ ∀ f j, f ≠ 0 → f ≠ 1 → B'.2 f j = (G.1 b).2 f j) (fun x _ => 102 - x.toNatClampNeg) (fun rec x S' hI hrec => ?_) _ S32 ⟨100 - (G.1 b).1 9 0, G.1 b, by omega, by congr 1; omega, H0, hB, by omega, fun _ _ _ _ => rfl, fun _ _ _ _ => rfl⟩
    obtain ⟨k', B', hk', rfl, H', hd, g8, gf, gj⟩ := hI
    unfold wb_X7_share_89
    have hle : (100 : Int32) < nI (101 - k') ↔ 100 < 101 - k' := nI_ltI (a := 100) (by omega) (by omega)
    rw [hle]
    refine ⟨fun q => ?_, fun q => ?_⟩
    · have : k' = 0 := by omega
      subst this
      have hd : B' = B := hd
      subst hd
      exact h3 B' S' H' k
    · obtain ⟨j, rfl⟩ : ∃ j, k' = j + 1 := ⟨k' - 1, by omega⟩
      have e3 : 101 - (j + 1) = 100 - j := by omega
      have hx : nI (100 - j) + 1 = nI (101 - j) := by rw [nI_1]; congr 1; omega
      have hμ : 102 - (nI (101 - j)).toNatClampNeg < 102 - (nI (101 - (j + 1))).toNatClampNeg := by rw [nI_clamp (by omega), nI_clamp (by omega)]; omega
      rw [e3]
      generalize hpp : 100 - j = p at *
      have hp1 : p ≤ 100 := by omega
      -- fields that the kept messages are read from
      have ff : ∀ m, m < n → ((gN G b B').1 m).1 4 0 = (G.1 m).1 4 0 ∧ (∀ q, ((gN G b B').1 m).1 14 q = (G.1 m).1 14 q ∧ ((gN G b B').1 m).1 15 q = (G.1 m).1 15 q ∧ ((gN G b B').1 m).2 14 q = (G.1 m).2 14 q) := fun m hm => by
        rw [g1_N]
        split
        · rename_i e
          rw [e]
          exact ⟨gf _ _ (by omega) (by omega), fun q => ⟨gf _ _ (by omega) (by omega), gf _ _ (by omega) (by omega), gj _ _ (by omega) (by omega)⟩⟩
        · exact ⟨rfl, fun q => ⟨rfl, rfl, rfl⟩⟩
      have hdd : upd2 K (j + 1) B' = upd2 K j (match K p with | some x => nApply B' p x.1 x.2 | none => B') := by
        show upd2 K j (match K (100 - j) with | some x => nApply B' (100 - j) x.1 x.2 | none => B') = _
        rw [hpp]
      refine zlp3 (fun a y S'' => S'' = S' ∧ ∃ m, m ≤ n ∧ y = nI m ∧ ((a = -1 ∧ ∀ i, i < m → kcond G s ((G.1 b).1 4 0) p i = false) ∨ ∃ f, f < n ∧ a = nI f ∧ kcond G s ((G.1 b).1 4 0) p f = true)) (fun _ y _ => 9 - y.toNatClampNeg) (fun rec2 a y S'' hI hrec2 => ?_) _ _ S' ⟨rfl, 0, by omega, rfl, Or.inl ⟨rfl, fun i hi => absurd hi (by omega)⟩⟩
      obtain ⟨rfl, m, hm, rfl, hor⟩ := hI
      unfold wb_X7_share_102
      have hle2 : (nI n ≤ nI m) ↔ n ≤ m := nI_leI (by omega) (by omega)
      rw [(mV_n H').1, hle2, hx, nI_1]
      refine ⟨mV_0 H, fun q2 => ?_, fun q2 => ?_⟩
      · have hmn : m = n := by omega
        rcases hor with ⟨ea, ho⟩ | ⟨f, hf, ea, ho⟩
        · subst ea
          refine ⟨fun _ y e => ?_, fun z => absurd rfl z⟩
          subst e
          refine hrec _ _ ⟨j, B', by omega, rfl, H', ?_, by omega, gf, gj⟩ hμ
          have hKn : K p = none := by
            rw [← hK]
            exact kpf_none (fun i hi => ho i (by omega)) n (Nat.le_refl _)
          rw [← hd, hdd, hKn]
        · subst ea
          have ef : (101 : Int32) * nI f + nI p = nI (101 * f + p) := pl_nI f p
          obtain ⟨v20, c20⟩ := mv_ins H (k := 20) (j := 101 * f + p) (m := 808) (by omega) (by omega) rfl (by omega) (by omega)
          obtain ⟨v21, -⟩ := mv_ins H (k := 21) (j := 101 * f + p) (m := 808) (by omega) (by omega) rfl (by omega) (by omega)
          have z4 := (mV_N H' hf).1.2.2.2 p (by omega)
          rw [((ff f hf).2 p).2.1, ((ff f hf).2 p).2.2] at z4
          have e20 : zI S'' (ar 20) (101 * f + p) = nI ((G.1 f).1 15 p) := z4.2.1
          have e21 : zJ S'' (ar 21) (101 * f + p) = (G.1 f).2 14 p := z4.2.2
          have hKs : K p = some ((G.1 f).1 15 p, (G.1 f).2 14 p) := by
            rw [← hK]
            exact keptOf_some h.2.2.2.2.2.1 hf ho
          have h15 : (G.1 f).1 15 p < 16 := by
            unfold kcond at ho
            rw [Bool.and_eq_true, Bool.and_eq_true, decide_eq_true_iff, decide_eq_true_iff] at ho
            exact (((h.1 f hf).2.2.2 p).2 ho.2.2).1
          refine ⟨fun z => absurd (nI_pos (n := f) (by omega)) (fun y => y (by rw [z]; decide)), fun _ => ⟨mV_0 H, ar 20, mq_20 H, mkk_20 H, by rw [ef]; exact v20, ar 21, mq_21 H, mkk_21 H, by rw [ef]; exact v21, ?_⟩⟩
          rw [ef, c20, e20, e21]
          refine m_apply H' hb.1 h15 (by omega) (fun S70 H70 y e => ?_)
          subst e
          refine hrec _ _ ⟨j, _, by omega, rfl, H70, ?_, ?_, fun f' q a b => ?_, fun f' q a b => ?_⟩ hμ
          · rw [← hd, hdd, hKs]
          · rw [nApply_8]; omega
          · rw [nApply_ne _ _ _ _ _ a b]; exact gf f' q a b
          · rw [nApply_j _ _ _ _ _ a b]; exact gj f' q a b
      · have hmn : m < n := by omega
        have hμ2 : 9 - (nI (m + 1)).toNatClampNeg < 9 - (nI m).toNatClampNeg := by rw [nI_clamp (by omega), nI_clamp (by omega)]; omega
        have hskip : kcond G s ((G.1 b).1 4 0) p m = false → rec2 a (nI (m + 1)) S'' := fun hc => by
          refine hrec2 _ _ _ ⟨rfl, m + 1, by omega, rfl, ?_⟩ hμ2
          rcases hor with ⟨ea, ho⟩ | ho
          · refine Or.inl ⟨ea, fun i hi => ?_⟩
            rcases Nat.lt_succ_iff_lt_or_eq.mp hi with e | e
            · exact ho i e
            · rw [e]; exact hc
          · exact Or.inr ho
        obtain ⟨v10, c10⟩ := mv_in8 H (k := 10) (by omega) (by omega) rfl hmn
        have e10 : zI S'' (ar 10) m = nI ((G.1 m).1 4 0) := (mv_F (mn_0 H' (i := m)) hmn 4 (by omega) (by omega) (by omega) (by omega)).trans (by rw [(ff m hmn).1])
        have zv : (nI ((G.1 m).1 4 0) = nI ((G.1 b).1 4 0)) ↔ (G.1 m).1 4 0 = (G.1 b).1 4 0 := nI_eq (by have := b4 m hmn; omega) (by have := b4 b hb.1; omega)
        have em : (101 : Int32) * nI m + nI p = nI (101 * m + p) := pl_nI m p
        obtain ⟨v19, c19⟩ := mv_ins H (k := 19) (j := 101 * m + p) (m := 808) (by omega) (by omega) rfl (by omega) (by omega)
        have z4 := (mV_N H' hmn).1.2.2.2 p (by omega)
        rw [((ff m hmn).2 p).1] at z4
        have e19 : zI S'' (ar 19) (101 * m + p) = nI ((G.1 m).1 14 p) := z4.1
        have z14 : (nI ((G.1 m).1 14 p) = 0) ↔ (G.1 m).1 14 p = 0 := nI_eq (by have := ((h.1 m hmn).2.2.2 p).1; omega) (by omega : 0 < 2 ^ 31)
        refine m_isIn (by omega) ?_
        rw [bt_nI _ (by omega)]
        refine ⟨fun q3 y e => ?_, fun q3 => ⟨ar 10, mq_10 H, mkk_10 H, v10, ?_⟩⟩
        · subst e
          refine hskip ?_
          unfold kcond
          rw [z01_if.mp q3]; rfl
        · have hmb : s.testBit m = true := Classical.byContradiction (fun z => by rw [if_neg z] at q3; exact q3 rfl)
          rw [c10, e10, zv]
          refine ⟨fun q4 y e => ?_, fun q4 => ⟨ar 19, mq_19 H, mkk_19 H, by rw [em]; exact v19, ?_⟩⟩
          · subst e
            refine hskip ?_
            unfold kcond
            rw [decide_eq_false q4]; simp
          · rw [em, c19, e19, z14]
            refine ⟨fun q5 y e => ?_, fun q5 y e => ?_⟩
            · subst e
              refine hskip ?_
              unfold kcond
              simp [q5]
            · subst e
              refine hrec2 _ _ _ ⟨rfl, m + 1, by omega, rfl, Or.inr ⟨m, hmn, rfl, ?_⟩⟩ hμ2
              unfold kcond
              simp [hmb, q4, q5]
  unfold w_X7_share
  refine ⟨mV_0 H, ar 10, mq_10 H, m_voter H hs hs0 b4 (fun v hv hvs hmax => ⟨mkk_10 H, (mv_in8 H (k := 10) (by omega) (by omega) rfl hv).1, fun y8 e8 => m_voter H hs hs0 b4 (fun v2 hv2 hvs2 hmax2 y11 e11 => ?_)⟩)⟩
  have e10 : zI S (ar 10) v = nI ((G.1 v).1 4 0) := mv_F (mn_0 H (i := v)) hv 4 (by omega) (by omega) (by omega) (by omega)
  rw [(mv_in8 H (k := 10) (by omega) (by omega) rfl hv).2, e10, vmx v hv hvs hmax] at e8
  subst e8
  rw [hn.1] at e11
  subst e11
  -- the foremost is sought from behind
  refine zlp3 (fun a x S' => S' = S ∧ ∃ k' c, k' ≤ n ∧ x = nI k' - 1 ∧ a = nI c ∧ c < n ∧ s.testBit c = true ∧ (G.1 c).1 4 0 = (G.1 b).1 4 0 ∧ ∀ j, k' ≤ j → j < n → s.testBit j = true → (G.1 j).1 4 0 = (G.1 b).1 4 0 → (G.1 j).1 8 0 < (G.1 c).1 8 0 ∨ ((G.1 j).1 8 0 = (G.1 c).1 8 0 ∧ c ≤ j)) (fun _ x _ => (x + 1).toNatClampNeg) (fun rec a x S' hI hrec => ?_) _ _ S ⟨rfl, n, v2, by omega, rfl, rfl, hv2, hvs2, vmx v2 hv2 hvs2 hmax2, fun j h1 h2 => absurd h1 (by omega)⟩
  obtain ⟨rfl, k', c, hk, rfl, rfl, hc, hcs, hcv, hall⟩ := hI
  unfold wb_X7_share_25
  cases k' with
  | zero =>
    refine ⟨fun _ => ?_, fun z => absurd (by decide) z⟩
    have hfc : isFore G n s c := ⟨hc, hcs, fun j hj hjs z => by
      rw [ahead_iff] at z
      have a := hbm j hj hjs
      by_cases e : (G.1 j).1 4 0 = (G.1 b).1 4 0
      · have := hall j (by omega) hj hjs e
        omega
      · omega⟩
    have := isFore_uniq hfc hb
    subst this
    exact h2 S' H
  | succ m =>
    have hmn : m < n := by omega
    rw [nI_pred]
    have em : nI m + (-1) = nI m - 1 := by
      rw [Int32.sub_eq_add_neg]
    rw [em]
    have hμ : (nI m - 1 + 1).toNatClampNeg < (nI (m + 1) - 1 + 1).toNatClampNeg := by
      rw [nI_pred, nI_1]
      have : nI m - 1 + 1 = nI m := by simp
      rw [this, nI_clamp (by omega), nI_clamp (by omega)]
      omega
    refine ⟨fun z => absurd z (nI_pos (by omega)), fun _ => m_isIn (by omega) ?_⟩
    rw [bt_nI _ (by omega)]
    have hskip : ((s.testBit m = true → (G.1 m).1 4 0 = (G.1 b).1 4 0 → (G.1 m).1 8 0 < (G.1 c).1 8 0)) → rec (nI c) (nI m - 1) S' := fun hno => by
      refine hrec _ _ _ ⟨rfl, m, c, by omega, rfl, rfl, hc, hcs, hcv, fun j h1 h2 h3 h4 => ?_⟩ hμ
      by_cases e : j = m
      · subst e; exact Or.inl (hno h3 h4)
      · exact hall j (by omega) h2 h3 h4
    refine ⟨fun q3 y e => ?_, fun q3 => ⟨mV_0 H, ar 10, mq_10 H, mkk_10 H, (mv_in8 H (k := 10) (by omega) (by omega) rfl hmn).1, ?_⟩⟩
    · subst e
      exact hskip (fun z => by rw [z01_if.mp q3] at z; exact Bool.noConfusion z)
    · have hmb : s.testBit m = true := Classical.byContradiction (fun z => by rw [if_neg z] at q3; exact q3 rfl)
      have a10 : zI S' (ar 10) m = nI ((G.1 m).1 4 0) := mv_F (mn_0 H (i := m)) hmn 4 (by omega) (by omega) (by omega) (by omega)
      have zv : (nI ((G.1 m).1 4 0) = nI ((G.1 b).1 4 0)) ↔ (G.1 m).1 4 0 = (G.1 b).1 4 0 := nI_eq (by have := b4 m hmn; omega) (by have := b4 b hb.1; omega)
      rw [(mv_in8 H (k := 10) (by omega) (by omega) rfl hmn).2, a10, zv]
      refine ⟨fun q4 y e => ?_, fun q4 => ⟨ar 8, mq_8 H, mkk_8 H, (mv_in8 H (k := 8) (by omega) (by omega) rfl hmn).1, (mv_in8 H (k := 8) (by omega) (by omega) rfl hc).1, ?_⟩⟩
      · subst e
        exact hskip (fun _ z => absurd z q4)
      · have a8m : zI S' (ar 8) m = nI ((G.1 m).1 8 0) := mv_F (mn_0 H (i := m)) hmn 8 (by omega) (by omega) (by omega) (by omega)
        have a8c : zI S' (ar 8) c = nI ((G.1 c).1 8 0) := mv_F (mn_0 H (i := c)) hc 8 (by omega) (by omega) (by omega) (by omega)
        have zl : (nI ((G.1 m).1 8 0) < nI ((G.1 c).1 8 0)) ↔ (G.1 m).1 8 0 < (G.1 c).1 8 0 := nI_ltI (by have := b8 m hmn; omega) (by have := b8 c hc; omega)
        rw [(mv_in8 H (k := 8) (by omega) (by omega) rfl hc).2, a8m, a8c, zl]
        refine ⟨fun q5 y e => ?_, fun q5 y e => ?_⟩
        · subst e
          exact hskip (fun _ _ => q5)
        · subst e
          refine hrec _ _ _ ⟨rfl, m, m, by omega, rfl, rfl, hmn, hmb, q4, fun j h1 h2 h3 h4 => ?_⟩ hμ
          by_cases e : j = m
          · subst e; exact Or.inr ⟨rfl, Nat.le_refl _⟩
          · have := hall j (by omega) h2 h3 h4
            omega
end
