/-! the reference's give -/
section
variable {Z : zZ} {S0 S : zS} {ar : Nat → Nat} {n w : Nat} {sg : Nat → Nat} {u u' : Nat → Nat → Bool} {G : gT} {i : Nat} {N : nT} {r t l : Nat}
theorem gPutM_012 (n i r : Nat) (P : Nat → Bool) (m : Nat) (G : gT) : ∀ j, ((gPutM n i r P m G).1 j).1 0 0 = (G.1 j).1 0 0 ∧ ((gPutM n i r P m G).1 j).1 1 0 = (G.1 j).1 1 0 ∧ ((gPutM n i r P m G).1 j).1 2 0 = (G.1 j).1 2 0 := fun j => by
  unfold gPutM
  rw [gGive_ne _ _ _ _ _ _ _ (by omega) (by omega) (by omega), gGive_ne _ _ _ _ _ _ _ (by omega) (by omega) (by omega), gGive_ne _ _ _ _ _ _ _ (by omega) (by omega) (by omega)]
  exact ⟨rfl, rfl, rfl⟩
/-- first the sender, then the others -/
theorem gGive_two {G : gT} {P : Nat → Bool} {r p : Nat} (hi : i < n) (hPi : P i = false) : gGive (gN G i (nRecv (G.1 i) (G.2 r) p)) P r p n = gGive G (fun j => P j || decide (j = i)) r p n := by
  refine Prod.ext (funext fun j => ?_) rfl
  show (if j < n ∧ P j = true then nRecv ((gN G i (nRecv (G.1 i) (G.2 r) p)).1 j) (G.2 r) p else (gN G i (nRecv (G.1 i) (G.2 r) p)).1 j) = if j < n ∧ (P j || decide (j = i)) = true then nRecv (G.1 j) (G.2 r) p else G.1 j
  by_cases e : j = i
  · subst e
    rw [if_neg (fun z => by rw [hPi] at z; exact absurd z.2 (by decide)), g1_Ns, if_pos ⟨hi, by simp⟩]
  · rw [g1_Nn _ _ e]
    exact z_ifc2 (by simp [e])
/-- what waits moves to the front -/
theorem m_shift {m c0 : Nat} (H : zMV Z S0 ar n w sg u S G) (hi : i < n) (hc : (G.1 i).1 11 0 = c0) (hc12 : c0 ≤ 12) (hm : m ≤ c0) (hb : ∀ q, q < c0 → (G.1 i).1 13 q < 2) {Qp K : zS → Prop} (k : ∀ S', zMV Z S0 ar n w sg u S' (gSh i m G) → K S') : wL_X7_give_191 Z (ar 0) (nI i) (nI m) Qp K 0 (zsI S (ar 12) i (nI (c0 - m))) := by
  have hinj := H.1.1.2.2
  have hn := (mV_n H).2.2.2.1
  obtain ⟨v12, c12⟩ := mv_in8 H (k := 12) (by omega) (by omega) rfl hi
  -- the raw cells
  have hfin : ∀ S', zMb Z S0 ar S' → (∀ K, K ≠ 13 → K ≠ 15 → mI S' ar K = zu (mI S ar) 12 i (nI (c0 - m)) K) → (∀ K, K ≠ 14 → mJ S' ar K = mJ S ar K) → (∀ c, mI S' ar 13 c = if 12 * i ≤ c ∧ c < 12 * i + (c0 - m) then mI S ar 13 (c + m) else mI S ar 13 c) → (∀ c, mI S' ar 15 c = if 12 * i ≤ c ∧ c < 12 * i + (c0 - m) then mI S ar 15 (c + m) else mI S ar 15 c) → (∀ c, mJ S' ar 14 c = if 12 * i ≤ c ∧ c < 12 * i + (c0 - m) then mJ S ar 14 (c + m) else mJ S ar 14 c) → zMV Z S0 ar n w sg u S' (gSh i m G) := fun S' hb' hI hJ h13 h15 h14 => by
    refine ⟨hb', mC_node (mn_0 H (i := i)).2 ?_ ?_ (fun K hK => ⟨?_, hJ K (by omega)⟩) rfl (nShiftK_ne _ _ _ (by omega) (by omega) (by omega)) (fun p => nShiftK_ne _ _ _ (by omega) (by omega) (by omega)) (fun j hj hji h => ?_) (fun _ h => ?_)⟩
    · rw [hI 0 (by omega) (by omega), zu_ne _ _ _ _ _ (by omega)]
    · rw [hI 5 (by omega) (by omega), zu_ne _ _ _ _ _ (by omega)]
    · rw [hI K (by omega) (by omega), zu_ne _ _ _ _ _ (by omega)]
    · obtain ⟨a1, a2, a3, a4⟩ := h
      refine ⟨fun f hf hf2 hf6 hf7 => ?_, ?_, fun y hy h12 => ?_, fun p hp => ?_⟩
      · have := mA_rg f hf hf2
        rw [hI _ (by omega) (by omega), ← a1 f hf hf2 hf6 hf7]
        by_cases e : mA f = 12
        · rw [e, zu_at, if_neg hji]
        · rw [zu_ne _ _ _ _ _ e]
      · rw [hJ 9 (by omega), hJ 7 (by omega), hJ 23 (by omega)]; exact a2
      · rw [h13, h14, h15, if_neg (by omega), if_neg (by omega), if_neg (by omega)]; exact a3 y hy h12
      · rw [hI 19 (by omega) (by omega), hI 20 (by omega) (by omega), hJ 21 (by omega), zu_ne _ _ _ _ _ (by omega), zu_ne _ _ _ _ _ (by omega)]; exact a4 p hp
    · obtain ⟨a1, a2, a3, a4⟩ := h
      have e11 : (nShiftK (G.1 i) m).1 11 0 = c0 - m := by rw [← hc]; rfl
      refine ⟨fun f hf hf2 hf6 hf7 => ?_, ?_, fun y hy h12 => ?_, fun p hp => ?_⟩
      · have := mA_rg f hf hf2
        rw [hI _ (by omega) (by omega)]
        by_cases e : f = 11
        · subst e
          show zu (mI S ar) 12 i (nI (c0 - m)) 12 i = _
          rw [zu_at, if_pos rfl, e11]
        · have e12' : mA f ≠ 12 := fun z => e (mA_inj f hf hf2 11 (by omega) (by omega) z)
          rw [zu_ne _ _ _ _ _ e12', a1 f hf hf2 hf6 (fun z => by have := hf7 z; rw [nShiftK_ne _ _ _ (by omega) (by omega) (by omega)] at this; exact this), nShiftK_ne _ _ _ e (by omega) (by omega)]
      · rw [hJ 9 (by omega), hJ 7 (by omega), hJ 23 (by omega)]; exact a2
      · rw [e11] at hy
        rw [h13, h14, h15, if_pos (by omega), if_pos (by omega), if_pos (by omega)]
        have z := a3 (y + m) (by omega) (by omega)
        have s12 : (nShiftK (G.1 i) m).1 12 y = (G.1 i).1 12 (y + m) := by
          show (if 12 = 11 ∧ y = 0 then (G.1 i).1 11 0 - m else if 12 = 12 ∨ 12 = 13 then (G.1 i).1 12 (y + m) else (G.1 i).1 12 y) = _
          rw [if_neg (fun z => by omega), if_pos (Or.inl rfl)]
        have s13 : (nShiftK (G.1 i) m).1 13 y = (G.1 i).1 13 (y + m) := by
          show (if 13 = 11 ∧ y = 0 then (G.1 i).1 11 0 - m else if 13 = 12 ∨ 13 = 13 then (G.1 i).1 13 (y + m) else (G.1 i).1 13 y) = _
          rw [if_neg (fun z => by omega), if_pos (Or.inr rfl)]
        have sj : (nShiftK (G.1 i) m).2 12 y = (G.1 i).2 12 (y + m) := by
          show (if 12 = 12 then (G.1 i).2 12 (y + m) else (G.1 i).2 12 y) = _
          rw [if_pos rfl]
        rw [s12, s13, sj, Nat.add_assoc]
        exact z
      · rw [hI 19 (by omega) (by omega), hI 20 (by omega) (by omega), hJ 21 (by omega), zu_ne _ _ _ _ _ (by omega), zu_ne _ _ _ _ _ (by omega), nShiftK_ne _ _ _ (by omega) (by omega) (by omega), nShiftK_ne _ _ _ (by omega) (by omega) (by omega)]; exact a4 p hp
  have hNa := (mv_n (mn_0 H (i := i)) hi).1.2.2.1
  rw [hc] at hNa
  refine zlp2 (fun x S' => ∃ k', k' ≤ c0 - m ∧ x = nI k' ∧ zMb Z S0 ar S' ∧ (∀ K, K ≠ 13 → K ≠ 15 → mI S' ar K = zu (mI S ar) 12 i (nI (c0 - m)) K) ∧ (∀ K, K ≠ 14 → mJ S' ar K = mJ S ar K) ∧ (∀ c, mI S' ar 13 c = if 12 * i ≤ c ∧ c < 12 * i + k' then mI S ar 13 (c + m) else mI S ar 13 c) ∧ (∀ c, mI S' ar 15 c = if 12 * i ≤ c ∧ c < 12 * i + k' then mI S ar 15 (c + m) else mI S ar 15 c) ∧ ∀ c, mJ S' ar 14 c = if 12 * i ≤ c ∧ c < 12 * i + k' then mJ S ar 14 (c + m) else mJ S ar 14 c) (fun x _ => 20 - x.toNatClampNeg) (fun rec x S' hI hrec => ?_) _ _ ⟨0, by omega, rfl, zMb_I H.1 (by omega) _ _, fun K _ _ => by rw [mI_I hinj], fun K _ => rfl, fun c => ?_, fun c => ?_, fun c => ?_⟩
  · obtain ⟨k', hk, rfl, hb', hI', hJ', h13, h15, h14⟩ := hI
    unfold wb_X7_give_191
    have r12 : zI S' (ar 12) i = nI (c0 - m) := by
      have := congrFun (hI' 12 (by omega) (by omega)) i
      rw [zu_at, if_pos rfl] at this
      exact this
    have hle : (nI (c0 - m) ≤ nI k') ↔ c0 - m ≤ k' := nI_leI (by omega) (by omega)
    refine ⟨mV_0 H, ar 12, mq_12 H, mkk_12 H, v12, ?_⟩
    rw [c12, r12, hle]
    refine ⟨fun q => ?_, fun q y80 e80 => ?_⟩
    · have : k' = c0 - m := by omega
      subst this
      exact k S' (hfin S' hb' hI' hJ' h13 h15 h14)
    · have e80' : y80 = nI (12 * i + k') := by
        rw [e80, ← nI_add]
        exact congrArg (· + nI k') (pk_mul 12 i)
      subst e80'
      rw [nI_add, nI_1]
      have hv := fun K (h3 : 3 ≤ K) (hK : K < 36) (hm96 : mln K = 96) => mv_ins H (k := K) (j := 12 * i + k') h3 hK hm96 (by omega) (by omega)
      have hv2 := fun K (h3 : 3 ≤ K) (hK : K < 36) (hm96 : mln K = 96) => mv_ins H (k := K) (j := 12 * i + k' + m) h3 hK hm96 (by omega) (by omega)
      have n1 := (hv 13 (by omega) (by omega) rfl).2
      have n2 := (hv2 13 (by omega) (by omega) rfl).2
      have r13 : zI S' (ar 13) (12 * i + k' + m) = mI S ar 13 (12 * i + k' + m) := (h13 _).trans (if_neg (by omega))
      have r15 : zI S' (ar 15) (12 * i + k' + m) = mI S ar 15 (12 * i + k' + m) := (h15 _).trans (if_neg (by omega))
      have r14 : zJ S' (ar 14) (12 * i + k' + m) = mJ S ar 14 (12 * i + k' + m) := (h14 _).trans (if_neg (by omega))
      have z15 : mI S ar 15 (12 * i + k' + m) = nI ((G.1 i).1 13 (k' + m)) := by
        rw [Nat.add_assoc]
        exact (hNa (k' + m) (by omega) (by omega)).2.2
      refine ⟨ar 13, mq_13 H, mkk_13 H, (hv2 13 (by omega) (by omega) rfl).1, (hv 13 (by omega) (by omega) rfl).1, fun S86 e86 => ⟨ar 14, mq_14 H, mkk_14 H, (hv2 14 (by omega) (by omega) rfl).1, (hv 14 (by omega) (by omega) rfl).1, fun S92 e92 => ⟨ar 15, mq_15 H, mkk_15 H, (hv2 15 (by omega) (by omega) rfl).1, (hv 15 (by omega) (by omega) rfl).1, ?_, fun S98 e98 y100 e100 => ?_⟩⟩⟩
      · rw [n2, e92, zI_sJ, e86, zI_sI, if_neg (fun z => by have := (hinj 15 13).mp z.1; omega), r15, z15]
        have := hb (k' + m) (by omega)
        have h01 : (G.1 i).1 13 (k' + m) = 0 ∨ (G.1 i).1 13 (k' + m) = 1 := by omega
        rcases h01 with e | e <;> rw [e]
        · exact Or.inl rfl
        · exact Or.inr rfl
      · subst e100
        rw [n1, n2, r13] at e86
        have e92' : S92 = zsJ S86 (ar 14) (12 * i + k') (mJ S ar 14 (12 * i + k' + m)) := by rw [e92, n1, n2, ← r14, e86]; rfl
        have e98' : S98 = zsI S92 (ar 15) (12 * i + k') (mI S ar 15 (12 * i + k' + m)) := by
          rw [e98, n1, n2]
          congr 1
          rw [e92, zI_sJ, e86, zI_sI, if_neg (fun z => by have := (hinj 15 13).mp z.1; omega), r15]
        have fI : mI S98 ar = zu (zu (mI S' ar) 13 (12 * i + k') (mI S ar 13 (12 * i + k' + m))) 15 (12 * i + k') (mI S ar 15 (12 * i + k' + m)) := by
          rw [e98', mI_I hinj, e92', mI_J, e86, mI_I hinj]
        have fJ : mJ S98 ar = zu (mJ S' ar) 14 (12 * i + k') (mJ S ar 14 (12 * i + k' + m)) := by
          rw [e98', mJ_I, e92', mJ_J hinj, e86, mJ_I]
        refine hrec _ _ ⟨k' + 1, by omega, rfl, ?_, fun K h1 h2 => ?_, fun K h1 => ?_, fun c => ?_, fun c => ?_, fun c => ?_⟩ ?_
        · rw [e98', e92', e86]
          exact zMb_I (zMb_J (zMb_I hb' (by omega) _ _) (by omega) _ _) (by omega) _ _
        · rw [fI, zu_ne _ _ _ _ _ h2, zu_ne _ _ _ _ _ h1]; exact hI' K h1 h2
        · rw [fJ, zu_ne _ _ _ _ _ h1]; exact hJ' K h1
        · rw [fI, zu_ne _ _ _ _ _ (by omega), zu_at, h13]
          by_cases e : c = 12 * i + k'
          · rw [if_pos e, if_pos (by omega), e]
          · rw [if_neg e]
            exact z_ifc2 (by omega)
        · rw [fI, zu_at, zu_ne _ _ _ _ _ (by omega), h15]
          by_cases e : c = 12 * i + k'
          · rw [if_pos e, if_pos (by omega), e]
          · rw [if_neg e]
            exact z_ifc2 (by omega)
        · rw [fJ, zu_at, h14]
          by_cases e : c = 12 * i + k'
          · rw [if_pos e, if_pos (by omega), e]
          · rw [if_neg e]
            exact z_ifc2 (by omega)
        · rw [nI_clamp (by omega), nI_clamp (by omega)]; omega
  · rw [mI_I hinj, zu_ne _ _ _ _ _ (by omega), if_neg (by omega)]
  · rw [mI_I hinj, zu_ne _ _ _ _ _ (by omega), if_neg (by omega)]
  · rw [if_neg (by omega)]
    rfl
theorem m_give {P : Nat → Bool} (H : zMV Z S0 ar n w sg u S G) (h : gW n G t l) (ht : t < 2 ^ 19) (hi : i < n) (hr8 : r ≠ 8) (hP : pR n i r P G) {x : Int32} (hx : pP G i x = P) {Qp : zS → Prop} (k : ∀ S', zMV Z S0 ar n w sg u S' (gSend n i r P w G) → Qp S') : w_X7_give Z (ar 0) (nI i) x S Qp := by
  have hn := (mV_n H).2.2.2.1
  have hw := (mV_n H).2.2.2.2
  have h5 := mv_5 H hi hP.1 hr8
  obtain ⟨v5, c5⟩ := mv_in8 H (k := 5) (by omega) (by omega) rfl hi
  obtain ⟨v12, -⟩ := mv_in8 H (k := 12) (by omega) (by omega) rfl hi
  have hc12 := (h.1 i hi).2.1.2.2.2
  unfold w_X7_give
  refine ⟨mV_0 H, ar 5, mq_5 H, mkk_5 H, v5, fun y6 e6 => ?_⟩
  rw [c5, h5] at e6
  subst e6
  refine zlp2 (fun y S' => ∃ m G', m ≤ w ∧ y = nI m ∧ zMV Z S0 ar n w sg u S' G' ∧ gSend n i r P (w - m) (gSh i m G') = gSend n i r P w G ∧ gW n G' t l ∧ pR n i r P G' ∧ pP G' i x = P ∧ m ≤ (G'.1 i).1 11 0 ∧ (G'.1 i).1 11 0 ≤ 12) (fun y _ => 20 - y.toNatClampNeg) (fun rec y S' hI hrec => ?_) _ S ⟨0, G, by omega, rfl, H, by rw [gSh_0, Nat.sub_zero], h, hP, hx, by omega, hc12⟩
  obtain ⟨m, G', hmw, rfl, H', hd, hW, hP', hx', hmc, hc12'⟩ := hI
  obtain ⟨g1, -, -, g28, -, -, -⟩ := mv_R H' hi hP'.1 hr8
  have g28 : zI S' (ar 28) (sg r) = nI ((G'.2 r).1 3 0) := g28
  have hsl := mv_ins H (k := 28) (j := sg r) (m := 16) (by omega) (by omega) rfl (by omega) g1
  have e12 : zI S' (ar 12) i = nI ((G'.1 i).1 11 0) := mv_F (mn_0 H' (i := i)) hi 11 (by omega) (by omega) (by omega) (by omega)
  have hl := (hW.2.1 r).1.2.2
  have esh : (gSh i m G').1 i = nShiftK (G'.1 i) m := g1_Ns _ _ _
  have hstop : ¬ (m < w ∧ m < (G'.1 i).1 11 0 ∧ (G'.2 r).1 3 0 < 100) → (fun (v69 : Int32) (S68 : zS) => ∃ b70, zQ Z (ar 0) 12 = some b70 ∧ zk Z b70 8 ∧ vp_in (nI i) (zN Z b70) ∧ ∀ S74 : zS, S74 = zsI S68 b70 (nI i).toNatClampNeg ((zI S68 b70 (nI i).toNatClampNeg) - v69) → wL_X7_give_191 Z (ar 0) (nI i) v69 Qp (fun (S102 : zS) => Qp S102) 0 S74) (nI m) S' := fun hno => by
    have es : gSend n i r P (w - m) (gSh i m G') = gSh i m G' := by
      cases hwm : w - m with
      | zero => rfl
      | succ j =>
        unfold gSend
        rw [if_neg]
        intro z
        have z2 : (nShiftK (G'.1 i) m).1 11 0 ≠ 0 := by rw [← esh]; exact z.2
        have z3 : (G'.1 i).1 11 0 - m ≠ 0 := z2
        exact hno ⟨by omega, by omega, z.1⟩
    refine ⟨ar 12, mq_12 H, mkk_12 H, v12, fun S74 e74 => ?_⟩
    rw [c5, e12, pk_sub hmc] at e74
    subst e74
    refine m_shift H' hi rfl hc12' hmc (fun q hq => ((hW.1 i hi).2.2.1 q hq).2) (fun S102 H102 => k S102 ?_)
    rw [← hd, es]
    exact H102
  unfold wb_X7_give_10
  have hle : (nI w ≤ nI m) ↔ w ≤ m := nI_leI (by omega) (by omega)
  have hle2 : (nI ((G'.1 i).1 11 0) ≤ nI m) ↔ (G'.1 i).1 11 0 ≤ m := nI_leI (by omega) (by omega)
  have hle3 : ((100 : Int32) ≤ nI ((G'.2 r).1 3 0)) ↔ 100 ≤ (G'.2 r).1 3 0 := nI_leI (a := 100) (by omega) (by omega)
  rw [(mV_n H').2.1, hle]
  refine ⟨mV_0 H, fun q => hstop (fun z => by omega), fun q => ⟨ar 12, mq_12 H, mkk_12 H, v12, ?_⟩⟩
  rw [c5, e12, hle2]
  refine ⟨fun q2 => by have z := hstop (fun z => by omega); rw [c5] at z; exact z, fun q2 => ⟨ar 28, mq_28 H, mkk_28 H, hsl.1, ?_⟩⟩
  rw [hsl.2, g28, hle3]
  refine ⟨fun q3 => by have z := hstop (fun z => by omega); rw [c5] at z; exact z, fun q3 S16 e16 => ?_⟩
  rw [nI_1] at e16
  have r16 : zI S16 (ar 28) (sg r) = nI ((G'.2 r).1 3 0 + 1) := by rw [e16, zI_sI, if_pos ⟨rfl, rfl⟩]
  have hinj := H.1.1.2.2
  have hpq := (hW.1 i hi).2.2.1 m (by omega)
  have hNa := (mv_n (mn_0 H' (i := i)) hi).1.2.2.1 m (by omega) (by omega)
  obtain ⟨k13, k14, k15⟩ := hNa
  have k13 : zI S' (ar 13) (12 * i + m) = nI ((G'.1 i).1 12 m) := k13
  have k14 : zJ S' (ar 14) (12 * i + m) = (G'.1 i).2 12 m := k14
  have k15 : zI S' (ar 15) (12 * i + m) = nI ((G'.1 i).1 13 m) := k15
  have e12m : (12 : Int32) * nI i + nI m = nI (12 * i + m) := by
    rw [← nI_add]
    exact congrArg (· + nI m) (pk_mul 12 i)
  have hp := fun K (h3 : 3 ≤ K) (hK : K < 36) (hm96 : mln K = 96) => mv_ins H (k := K) (j := 12 * i + m) h3 hK hm96 (by omega) (by omega)
  have hc := fun K (h3 : 3 ≤ K) (hK : K < 36) (hm : mln K = 1616) => mv_ins H (k := K) (j := 101 * sg r + ((G'.2 r).1 3 0 + 1)) h3 hK hm (by omega) (by omega)
  have cc := (hc 29 (by omega) (by omega) rfl).2
  have pc := (hp 13 (by omega) (by omega) rfl).2
  rw [r16]
  refine m_place ⟨ar 29, mq_29 H, mkk_29 H, (hc 29 (by omega) (by omega) rfl).1, fun S23 e23 => ⟨ar 30, mq_30 H, ar 13, mq_13 H, mkk_13 H, by rw [e12m]; exact (hp 13 (by omega) (by omega) rfl).1, mkk_30 H, (hc 30 (by omega) (by omega) rfl).1, fun S32 e32 => ⟨ar 31, mq_31 H, ar 14, mq_14 H, mkk_14 H, by rw [e12m]; exact (hp 14 (by omega) (by omega) rfl).1, mkk_31 H, (hc 31 (by omega) (by omega) rfl).1, fun S41 e41 => ⟨ar 32, mq_32 H, ar 15, mq_15 H, mkk_15 H, by rw [e12m]; exact (hp 15 (by omega) (by omega) rfl).1, mkk_32 H, (hc 32 (by omega) (by omega) rfl).1, ?_, fun S50 e50 => ⟨ar 33, mq_33 H, mkk_33 H, (hc 33 (by omega) (by omega) rfl).1, fun S56 e56 => ⟨ar 34, mq_34 H, mkk_34 H, (hc 34 (by omega) (by omega) rfl).1, fun S61 e61 => ?_⟩⟩⟩⟩⟩⟩
  · rw [e12m, pc, e41, zI_sJ, e32, zI_sI, if_neg (fun z => by have := (hinj 15 30).mp z.1; omega), e23, zI_sI, if_neg (fun z => by have := (hinj 15 29).mp z.1; omega), e16, zI_sI, if_neg (fun z => by have := (hinj 15 28).mp z.1; omega), k15]
    have h01 : (G'.1 i).1 13 m = 0 ∨ (G'.1 i).1 13 m = 1 := by omega
    rcases h01 with e | e <;> rw [e]
    · exact Or.inl rfl
    · exact Or.inr rfl
  · have q15 : zI S41 (ar 15) (12 * i + m) = nI ((G'.1 i).1 13 m) := by
      rw [e41, zI_sJ, e32, zI_sI, if_neg (fun z => by have := (hinj 15 30).mp z.1; omega), e23, zI_sI, if_neg (fun z => by have := (hinj 15 29).mp z.1; omega), e16, zI_sI, if_neg (fun z => by have := (hinj 15 28).mp z.1; omega), k15]
    have q14 : zJ S32 (ar 14) (12 * i + m) = (G'.1 i).2 12 m := by
      rw [e32, zJ_sI, e23, zJ_sI, e16, zJ_sI, k14]
    have q13 : zI S23 (ar 13) (12 * i + m) = nI ((G'.1 i).1 12 m) := by
      rw [e23, zI_sI, if_neg (fun z => by have := (hinj 13 29).mp z.1; omega), e16, zI_sI, if_neg (fun z => by have := (hinj 13 28).mp z.1; omega), k13]
    rw [cc] at e23 e56 e61
    rw [cc, e12m, pc, q13] at e32
    rw [cc, e12m, pc, q14] at e41
    rw [cc, e12m, pc, q15] at e50
    have hir : (G'.1 i).1 2 0 = r := hP'.1
    have hin : r ≠ 8 ∧ ∃ i, i < n ∧ (G'.1 i).1 2 0 = r := ⟨hr8, i, hi, hir⟩
    have hlast : ∀ r, (G'.2 r).1 3 0 ≤ 100 := fun r => (hW.2.1 r).1.2.2
    have hz16 : ∀ j, j < n → (G'.1 j).1 2 0 = r → (G'.1 j).1 16 ((G'.2 r).1 3 0 + 1) = 0 := fun j hj hjr => by
      refine Classical.byContradiction (fun z => ?_)
      have := hW.2.2.2.1.1 j hj _ z
      rw [hjr] at this
      omega
    have hz4 : (G'.2 r).1 4 ((G'.2 r).1 3 0 + 1) = 0 := by
      refine Classical.byContradiction (fun z => ?_)
      have := hW.2.2.2.1.2.1 r _ (by omega) z
      omega
    have H61 := ms_put H' hin hlast (by omega) hz16 hz4 i ((G'.1 i).1 12 m) ((G'.1 i).2 12 m) ((G'.1 i).1 13 m)
    rw [← e16, ← e23, ← e32, ← e41, ← e50, ← e56, ← e61] at H61
    have hW61 := W_putM hW hi (by omega) hir hr8 (by omega) (m := m) (by omega)
    have r61 : zI S61 (ar 28) (sg r) = nI ((G'.2 r).1 3 0 + 1) := by
      have z := (mv_R H61 (i := i) hi hir hr8).2.2.2.1
      rw [g2_Rs, rPut_3] at z
      exact z
    rw [r61]
    generalize hG2 : gR G' r (rPut (G'.2 r) i ((G'.1 i).1 12 m) ((G'.1 i).2 12 m) ((G'.1 i).1 13 m)) = G2 at *
    have eGi : G2.1 = G'.1 := by rw [← hG2]; rfl
    have e3 : (G2.2 r).1 3 0 = (G'.2 r).1 3 0 + 1 := by rw [← hG2, g2_Rs, rPut_3]
    have hir2 : (G2.1 i).1 2 0 = r := by rw [eGi]; exact hir
    have hnum := hW61.2.2.2.2.1.2.1 i hi (by rw [hir2]; exact hr8)
    rw [hir2] at hnum
    have htb := hW61.2.2.1
    have hok : rOk (G2.2 r) := ⟨by have := htb.2 r; omega, (hW61.2.1 r).2.2.2⟩
    refine m_gets (N := G2.1 i) (R := G2.2 r) (mn_0 H61) hi (by rw [hir2]; exact hr8) (by rw [hir2]) hok hnum (by have := (htb.1 i hi).2.1; omega) (fun r => (hW61.2.1 r).1.2.2) (by omega) (by omega) (fun S62 H62 => ?_)
    -- the sender has it
    have eself : gN G2 i (nRecv (G2.1 i) (G2.2 r) ((G'.2 r).1 3 0 + 1)) = gGive G2 (fun j => decide (j = i)) r ((G'.2 r).1 3 0 + 1) n := by
      refine Prod.ext (funext fun j => ?_) rfl
      show (if j = i then nRecv (G2.1 i) (G2.2 r) ((G'.2 r).1 3 0 + 1) else G2.1 j) = if j < n ∧ decide (j = i) = true then nRecv (G2.1 j) (G2.2 r) ((G'.2 r).1 3 0 + 1) else G2.1 j
      by_cases e : j = i
      · subst e
        rw [if_pos rfl, if_pos ⟨hi, by simp⟩]
      · rw [if_neg e, if_neg (fun z => e (by simpa using z.2))]
    have hW62 := W_give (P := fun j => decide (j = i)) (r := r) (p := (G'.2 r).1 3 0 + 1) hW61 hr8 (fun j hj hp => by rw [decide_eq_true_iff.mp hp]; exact hir2) (by omega) (by omega)
    rw [← eself] at hW62
    have hir3 : ((gN G2 i (nRecv (G2.1 i) (G2.2 r) ((G'.2 r).1 3 0 + 1))).1 i).1 2 0 = r := by
      rw [g1_Ns, nRecv_ne _ _ _ _ (by omega) (by omega) (by omega)]; exact hir2
    have r62 : zI S62 (ar 28) (sg r) = nI ((G'.2 r).1 3 0 + 1) := by
      have z := (mv_R H62 (i := i) hi hir3 hr8).2.2.2.1
      rw [g2_N, e3] at z
      exact z
    rw [r62]
    refine m_comes H62 hW62 ht hi (by rw [hir3]; exact hr8) (by omega) (by rw [hir3, g2_N, e3]; exact Nat.le_refl _) (fun S63 H63 y64 e64 => ?_)
    rw [nI_1] at e64
    subst e64
    have hpp : pP (gN G2 i (nRecv (G2.1 i) (G2.2 r) ((G'.2 r).1 3 0 + 1))) i x = P := by
      rw [← hx']
      refine pP_congr x (fun j => ?_)
      rw [g1_N]
      split
      · rename_i e
        rw [nRecv_ne _ _ _ _ (by omega) (by omega) (by omega), nRecv_ne _ _ _ _ (by omega) (by omega) (by omega), nRecv_ne _ _ _ _ (by omega) (by omega) (by omega), eGi, e]
        exact ⟨rfl, rfl, rfl⟩
      · rw [eGi]; exact ⟨rfl, rfl, rfl⟩
    have hPi : P i = false := by
      rw [← hx']
      unfold pP
      simp
    rw [hir3, hpp, gGive_two hi hPi] at H63
    have eM : gGive G2 (fun j => P j || decide (j = i)) r ((G'.2 r).1 3 0 + 1) n = gPutM n i r P m G' := by rw [← hG2]; rfl
    rw [eM] at H63
    have hWM : gW n (gPutM n i r P m G') t l := by
      rw [← eM]
      refine W_give hW61 hr8 (fun j hj hp => ?_) (by omega) (by omega)
      rw [eGi]
      rcases (Bool.or_eq_true _ _).mp hp with e | e
      · exact hP'.2 j hj e
      · rw [decide_eq_true_iff.mp e]; exact hir
    have e012 := gPutM_012 n i r P m G'
    have e11 : ((gPutM n i r P m G').1 i).1 11 0 = (G'.1 i).1 11 0 := by
      unfold gPutM
      rw [gGive_ne _ _ _ _ _ _ _ (by omega) (by omega) (by omega)]
      rfl
    refine hrec _ _ ⟨m + 1, gPutM n i r P m G', by omega, rfl, H63, ?_, hWM, pR_of hP' (fun j => (e012 j).2.2), (pP_congr x e012).trans hx', by omega, by omega⟩ ?_
    · rw [← hd]
      obtain ⟨j, hj⟩ : ∃ j, w - m = j + 1 := ⟨w - m - 1, by omega⟩
      have hj2 : w - (m + 1) = j := by omega
      rw [hj, hj2]
      show _ = (if ((gSh i m G').2 r).1 3 0 < 100 ∧ ((gSh i m G').1 i).1 11 0 ≠ 0 then gSend n i r P j (gPut1 n i r P (gSh i m G')) else gSh i m G')
      rw [if_pos, gPutM_sh]
      refine ⟨by show (G'.2 r).1 3 0 < 100; omega, ?_⟩
      rw [esh]
      show (G'.1 i).1 11 0 - m ≠ 0
      omega
    · rw [nI_clamp (by omega), nI_clamp (by omega)]; omega
end
