/-! a round that sends -/
section
variable {Z : zZ} {S : zS} {x1 x2 x3 k : Nat} {x4 a1 a2 a3 : Int32} {rec : Nat → Int32 → zZ → zS → Prop}
theorem r_224 {L : Nat} {xs : Nat → Int32} {K : zZ → zS → Prop} {x0 : Nat} {v : Int32} {z : Int32} {val : Int64} {ad : Nat → Nat → Nat} {ar : Nat → Nat} {n w l : Nat} {sg : Nat → Nat} {G : gT} (hk : k < 49) (hrec : ∀ Z' S', zLI (ad 0 0) (ar 0) x3 (k + 1) Z' S' → ∀ y, y = x4 + 6 → rec (k + 1) y Z' S') (hz : z = 0 ∨ z = 1) (hM : zMV Z S ar n w sg uZ S G) (hJ : zJI Z ad ar x3) (hW : gW n G k l) (hl : l ≤ 400 * k) (hcase : (∃ i key, i < n ∧ a1 = nI i ∧ key < 16 ∧ a2 = nI key ∧ (G.1 i).1 0 0 ≠ 0 ∧ (G.1 i).1 11 0 < 12 ∧ v = 0 ∧ zJ S x3 (0 : Int32).toNatClampNeg = (nI ((G.1 i).1 11 0 + 1)).toInt64 ∧ zCV Z S ad n w S (gN G i (nPut (G.1 i) key val (if z = 0 then 0 else 1)))) ∨ (zCV Z S ad n w S G ∧ ((∃ i key, i < n ∧ a1 = nI i ∧ key < 16 ∧ a2 = nI key ∧ ((G.1 i).1 0 0 = 0 ∨ 12 ≤ (G.1 i).1 11 0) ∧ v = 2) ∨ ((a1 < 0 ∨ nI n ≤ a1) ∧ v = 1) ∨ ∃ i, i < n ∧ a1 = nI i ∧ (a2 < 0 ∨ 16 ≤ a2) ∧ v = 1))) : wJ_L_law_224 Z (fun _ => True) L xs K rec k x0 (ad 0 0) (ar 0) x3 x4 v z val a2 a1 (ar 0) S := by
  have hn := (mV_n hM).2.2.1
  have hn8 := (mV_n hM).2.2.2.1
  have z7 := mV_0 hM
  have z3 := hJ.2.2.1
  have hN := hJ.2.2.2.1
  unfold wJ_L_law_224
  refine ⟨z7, m_sendAll hM hW hz (fun i' key' hi' hx' hk' hy' hu' h12' S'' H'' => ?_) (fun i' key' hi' hx' hk' hy' hu' S'' H'' => ?_) (fun hx' S'' H'' => ?_) (fun i' hi' hx' hy' S'' H'' => ?_)⟩
  · rcases hcase with ⟨i, key, hi, hx, hkk, hy, hu, h12, rfl, hv, hC⟩ | ⟨hC, ⟨i, key, hi, hx, hkk, hy, hu, rfl⟩ | ⟨hx, rfl⟩ | ⟨i, hi, hx, hy, rfl⟩⟩
    · have e := nI_inj hn8 hi hi' (hx.symm.trans hx')
      subst e
      have e := (nI_eq (by omega) (by omega)).mp (hy.symm.trans hy')
      subst e
      obtain ⟨hL, hA⟩ := j_fin (k := k) hC H'' hJ (W_mono (W_putP hW hi h12 hkk (by split <;> omega)) (by omega) (Nat.le_refl _)) (by omega)
      exact ⟨z7, j_tl z7 z3 hN ((mV_th H'').trans (by rw [sgT_9]; rfl)) (fun _ => by rw [hA.2.1]; exact hv) (hrec _ _ hL)⟩
    · have e := nI_inj hn8 hi hi' (hx.symm.trans hx')
      subst e
      rcases hu with hu | hu
      · exact absurd hu hu'
      · omega
    · subst hx'
      exact (nI_bad hi' (by omega) hx).elim
    · subst hy'
      exact (nI_bad (m := 16) hk' (by omega) hy).elim
  · rcases hcase with ⟨i, key, hi, hx, hkk, hy, hu, h12, rfl, hv, hC⟩ | ⟨hC, ⟨i, key, hi, hx, hkk, hy, hu, rfl⟩ | ⟨hx, rfl⟩ | ⟨i, hi, hx, hy, rfl⟩⟩
    · have e := nI_inj hn8 hi hi' (hx.symm.trans hx')
      subst e
      rcases hu' with hu' | hu'
      · exact absurd hu' hu
      · omega
    · obtain ⟨hL, hA⟩ := j_fin (k := k) hC H'' hJ (W_mono hW (by omega) (Nat.le_refl _)) (by omega)
      exact ⟨z7, j_tl z7 z3 hN ((mV_th H'').trans (by rw [sgT_9]; rfl)) (fun z => absurd z (by decide)) (hrec _ _ hL)⟩
    · subst hx'
      exact (nI_bad hi' (by omega) hx).elim
    · subst hy'
      exact (nI_bad (m := 16) hk' (by omega) hy).elim
  · rcases hcase with ⟨i, key, hi, hx, hkk, hy, hu, h12, rfl, hv, hC⟩ | ⟨hC, ⟨i, key, hi, hx, hkk, hy, hu, rfl⟩ | ⟨hx, rfl⟩ | ⟨i, hi, hx, hy, rfl⟩⟩
    · subst hx
      exact (nI_bad hi (by omega) hx').elim
    · subst hx
      exact (nI_bad hi (by omega) hx').elim
    · obtain ⟨hL, hA⟩ := j_fin (k := k) hC H'' hJ (W_mono hW (by omega) (Nat.le_refl _)) (by omega)
      exact ⟨z7, j_tl z7 z3 hN ((mV_th H'').trans (by rw [sgT_9]; rfl)) (fun z => absurd z (by decide)) (hrec _ _ hL)⟩
    · subst hx
      exact (nI_bad hi (by omega) hx').elim
  · rcases hcase with ⟨i, key, hi, hx, hkk, hy, hu, h12, rfl, hv, hC⟩ | ⟨hC, ⟨i, key, hi, hx, hkk, hy, hu, rfl⟩ | ⟨hx, rfl⟩ | ⟨i, hi, hx, hy, rfl⟩⟩
    · subst hy
      exact (nI_bad (m := 16) hkk (by omega) hy').elim
    · subst hy
      exact (nI_bad (m := 16) hkk (by omega) hy').elim
    · subst hx'
      exact (nI_bad hi' (by omega) hx).elim
    · obtain ⟨hL, hA⟩ := j_fin (k := k) hC H'' hJ (W_mono hW (by omega) (Nat.le_refl _)) (by omega)
      exact ⟨z7, j_tl z7 z3 hN ((mV_th H'').trans (by rw [sgT_9]; rfl)) (fun z => absurd z (by decide)) (hrec _ _ hL)⟩
/-- a round that sends -/
theorem r_send {L : Nat} {xs : Nat → Int32} {K : zZ → zS → Prop} {x0 : Nat} (hI : zLI x1 x2 x3 k Z S) (hk : k < 49) (hrec : ∀ Z' S', zLI x1 x2 x3 (k + 1) Z' S' → ∀ y, y = x4 + 6 → rec (k + 1) y Z' S') (hv1 : vp_in (x4 + 1) L) (hv2 : vp_in (x4 + 2) L) (hv3 : vp_in (x4 + 3) L) (hv4 : vp_in (x4 + 4) L) (hv5 : vp_in (x4 + 5) L) {z : Int32} (hz : z = 0 ∨ z = 1) (hz0 : (xs (x4 + 5).toNatClampNeg) = 0 → z = 0) (hz1 : ¬ (xs (x4 + 5).toNatClampNeg) = 0 → z = 1) : wJ_L_law_169 Z (fun _ => True) L xs K rec k x0 x1 x2 x3 x4 z ((((xs (x4 + 3).toNatClampNeg : Int32).toInt64) <<< ((32 : Int32).toInt64 &&& 63)) ||| (((xs (x4 + 4).toNatClampNeg : Int32).toInt64) &&& 4294967295)) (xs (x4 + 2).toNatClampNeg) (xs (x4 + 1).toNatClampNeg) x1 S := by
  obtain ⟨ad, ar, n, w, sg, G, l, hC, hM, hJ, ⟨rfl, rfl⟩, hW, hl⟩ := hI
  have hn := zCV_n hC
  have z3 := hJ.2.2.1
  have hN := hJ.2.2.2.1
  have v0 := vp_01 hN
  unfold wJ_L_law_169
  generalize ((((xs (x4 + 3).toNatClampNeg : Int32).toInt64) <<< ((32 : Int32).toInt64 &&& 63)) ||| (((xs (x4 + 4).toNatClampNeg : Int32).toInt64) &&& 4294967295)) = val
  -- what follows a class's send
  have key : ∀ (v : Int32) (Z' : zZ) (S' : zS), (∀ z', z' = z → wJ_L_law_224 Z' (fun _ => True) L xs K rec k x0 (ad 0 0) (ar 0) x3 x4 v z' val (xs (x4 + 2).toNatClampNeg) (xs (x4 + 1).toNatClampNeg) (ar 0) S') → vp_in (x4 + 1) L ∧ vp_in (x4 + 2) L ∧ vp_in (x4 + 3) L ∧ vp_in (x4 + 4) L ∧ vp_in (x4 + 5) L ∧ (((xs (x4 + 5).toNatClampNeg) = 0 → wJ_L_law_224 Z' (fun _ => True) L xs K rec k x0 (ad 0 0) (ar 0) x3 x4 v 0 val (xs (x4 + 2).toNatClampNeg) (xs (x4 + 1).toNatClampNeg) (ar 0) S') ∧ (¬ (xs (x4 + 5).toNatClampNeg) = 0 → wJ_L_law_224 Z' (fun _ => True) L xs K rec k x0 (ad 0 0) (ar 0) x3 x4 v 1 val (xs (x4 + 2).toNatClampNeg) (xs (x4 + 1).toNatClampNeg) (ar 0) S')) := fun v Z' S' h => ⟨hv1, hv2, hv3, hv4, hv5, fun q => h 0 (hz0 q).symm, fun q => h 1 (hz1 q).symm⟩
  obtain ⟨hC0, hM0⟩ := j_cls hC hM hJ (S6 := S) (fun a _ => zAt_rf _ _)
  unfold w_L_send
  refine ⟨hC.1.1.1, c_sendAll hC hW hz (fun i key' hi hx hk' hy hu h12 Z' ad' S1 S' he hS ha ha2 H' => ?_) (fun i key' hi hx hk' hy hu => Or.inr ⟨rfl, key 2 Z S (fun z' e => ?_)⟩) (fun hx => Or.inl ⟨rfl, key 1 Z S (fun z' e => ?_)⟩) (fun i hi hx hy => Or.inl ⟨rfl, key 1 Z S (fun z' e => ?_)⟩)⟩
  · obtain ⟨f1, f2, f3⟩ := he _ _ z3
    refine ⟨f1, by rw [f2]; exact v0, fun S6 e6 => key 0 Z' S6 (fun z' e => ?_)⟩
    subst e
    have h6 : ∀ a, a ≠ x3 → zAt S' S6 a := fun a ha => by rw [e6]; exact zAt_sJ _ _ _ ha
    have hv : zJ S6 x3 (0 : Int32).toNatClampNeg = (nI ((G.1 i).1 11 0 + 1)).toInt64 := by rw [e6]; exact zJ_at _ _ _ _
    have hin : ∀ c, mgd c → ar c ∈ zL Z := fun c hc => by
      rcases hc with rfl | hc
      · exact hM.1.1.1.1
      · exact (hM.1.1.2.1 c hc.1 hc.2).2.1.1
    have hn5 : ∀ t i, x3 ≠ ad' t i := ha2 x3 z3.1 hJ.2.2.2.2.1
    have hna : ∀ c, mgd c → ∀ t i, ar c ≠ ad' t i := fun c hc => ha2 (ar c) (hin c hc) (fun t i => hJ.1 c hc t i)
    have hfr : ∀ c, mgd c → zAt S S6 (ar c) := fun c hc => zAt_tr (zAt_tr (hS _ (hin c hc)) (H'.2.2.2.2 _ (hna c hc))) (h6 _ (fun e => hJ.2.2.2.2.2 c hc e.symm))
    obtain ⟨ar', ha', hno', hM'⟩ := zMV_ad hM he hfr
    have e0 : ad' 0 0 = ad 0 0 := ha 0 0 (usdb_iff.mpr (Or.inl ⟨by omega, rfl⟩))
    have e1 : ar' 0 = ar 0 := ha' 0 (Or.inl rfl)
    have hJ' : zJI Z' ad' ar' x3 := ⟨fun c hc t i => by rw [ha' c hc]; exact hna c hc t i, hno', f1, f2.trans hN, hn5, fun c hc => by rw [ha' c hc]; exact hJ.2.2.2.2.2 c hc⟩
    have hC' := zCV_mv (S' := S6) H' (fun t i _ => h6 _ (fun e => hn5 t i e.symm)) (fun b hb => h6 b (fun e => by
      have h1 := hb.2
      rw [e, f1.2] at h1
      omega))
    rw [← e0, ← e1] at hrec ⊢
    exact r_224 hk hrec hz hM' hJ' hW hl (Or.inl ⟨i, key', hi, hx, hk', hy, hu, h12, rfl, hv, hC'⟩)
  · subst e
    exact r_224 hk hrec hz hM0 hJ hW hl (Or.inr ⟨hC0, Or.inl ⟨i, key', hi, hx, hk', hy, hu, rfl⟩⟩)
  · subst e
    exact r_224 hk hrec hz hM0 hJ hW hl (Or.inr ⟨hC0, Or.inr (Or.inl ⟨hx, rfl⟩)⟩)
  · subst e
    exact r_224 hk hrec hz hM0 hJ hW hl (Or.inr ⟨hC0, Or.inr (Or.inr ⟨i, hi, hx, hy, rfl⟩)⟩)
end
