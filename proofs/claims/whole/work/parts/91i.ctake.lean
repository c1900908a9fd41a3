/-! what waits is put and taken -/
section
variable {Z : zZ} {S0 S : zS} {ad : Nat → Nat → Nat} {n w : Nat} {G : gT} {i : Nat} {N : nT}
theorem c_pend_fin (H : zCV Z S0 ad n w S (gN G i N)) (hi : i < n) {S' : zS} {N' : nT} (ha : ∀ a, a ≠ ad 4 i → a ≠ ad 5 i → zAt S S' a) (h1 : zI S' (ad 4 i) 1 = nI (N'.1 11 0)) (hP : cnP Z S' ad i N') (hf1 : ∀ f j, f ≠ 11 → f ≠ 12 → f ≠ 13 → N'.1 f j = N.1 f j) (hf2 : ∀ f j, f ≠ 12 → N'.2 f j = N.2 f j) : zCV Z S0 ad n w S' (gN G i N') := by
  obtain ⟨⟨k1, k2, k3, k4, k5, k6⟩, hr0⟩ := cv_n H hi
  have hb : ∀ b, zk Z b 1 → zAt S S' b := fun b hb => ha b (zCV_nm H _ _ _ hb) (zCV_nm H _ _ _ hb)
  have hat : ∀ t, t ≠ 4 → t ≠ 5 → zAt S S' (ad t i) := fun t h4 h5 => ha _ (zCV_ne H (fun q => h4 q.1)) (zCV_ne H (fun q => h5 q.1))
  have e2 : N'.1 2 0 = N.1 2 0 := hf1 _ _ (by omega) (by omega) (by omega)
  have h := zCV_nodeS H (i := i) (S' := S') (N := N') (fun a h => ha a (h 4 (by omega) (by omega)) (h 5 (by omega) (by omega))) (by rw [e2]; exact hr0) ⟨⟨?_, fun f hf h2 => ?_⟩, ?_, ⟨?_, fun q hq => ?_, fun q hq => ?_⟩, hP, fun q hq => ?_, fun q hq => ?_⟩
  · rw [gN_gN] at h; exact h
  · rw [(hat 3 (by omega) (by omega)).1]; exact k1.1
  · by_cases e : f = 11
    · subst e; exact h1
    · rw [hf1 f 0 e (by omega) (by omega)]
      have ht : cT f ≠ 4 := (by decide : ∀ f, f < 12 → f ≠ 11 → cT f ≠ 4) f hf e
      have ht5 : cT f ≠ 5 := by have := cT_rg f hf; omega
      rw [(hat (cT f) ht ht5).1]
      exact k1.2 f hf h2
  · unfold cnR
    rw [(hat 3 (by omega) (by omega)).2.2, e2]; exact k2
  · rw [(hat 6 (by omega) (by omega)).2.1, hf2 _ _ (by omega)]; exact k3.1
  · rw [(hat 7 (by omega) (by omega)).2.1, hf2 _ _ (by omega)]; exact k3.2.1 q hq
  · rw [(hat 10 (by omega) (by omega)).2.1, hf2 _ _ (by omega)]; exact k3.2.2 q hq
  · rw [hf1 _ _ (by omega) (by omega) (by omega), hf1 _ _ (by omega) (by omega) (by omega), hf2 _ _ (by omega)]
    exact cnK_at (hat 8 (by omega) (by omega)).2.2 hb k5 q hq
  · rw [hf1 16 _ (by omega) (by omega) (by omega), e2]
    exact cnH_at (hat 11 (by omega) (by omega)).2.2 hb k6 q hq
theorem c_put (H : zCV Z S0 ad n w S (gN G i N)) (hi : i < n) (hB : N.1 11 0 < 12) {b key safe : Nat} {v : Int64} (hm : zMg Z S b i key v safe) {Qp : Int32 → zS → Prop} (k : ∀ S', zCV Z S0 ad n w S' (gN G i (nPut N key v safe)) → Qp (nI (N.1 11 0 + 1)) S') : w_X3_put Z (ad 4 i) b S Qp := by
  obtain ⟨-, ⟨p1, p2, p3, p4⟩, -, -, -⟩ := zCV_nd H hi
  have e0 : zI S (ad 4 i) 1 = nI (N.1 11 0) := cv_I H hi 11 (by omega) (by omega)
  unfold w_X3_put
  rw [e0, nI_clamp (by omega)]
  refine ⟨p1, ad 5 i, p2, p3, hm.1, by rw [p4]; exact vp_in_nI hB (by omega), fun S7 e7 S8 e8 => ?_⟩
  have e1 : zI S7 (ad 4 i) 1 = nI (N.1 11 0) := by rw [e7]; exact e0
  rw [e1, nI_1] at e8
  have n54 : ad 5 i ≠ ad 4 i := zCV_ne H (fun q => by omega)
  have hat : ∀ a, a ≠ ad 4 i → a ≠ ad 5 i → zAt S S8 a := fun a h4 h5 => by
    rw [e8, e7]
    exact zAt_tr (zAt_sR S _ _ h5) (zAt_sI _ _ _ h4)
  have hc : (nPut N key v safe).1 11 0 = N.1 11 0 + 1 := n1_eq _ _ _ _
  have H8 : zCV Z S0 ad n w S8 (gN G i (nPut N key v safe)) := by
    refine c_pend_fin H hi hat ?_ (fun q hq => ?_) (fun f j a b c => ?_) (fun f j a => ?_)
    · rw [hc, e8, zI_sI, if_pos ⟨rfl, rfl⟩]
    · rw [hc] at hq
      have r12 : (nPut N key v safe).1 12 q = if q = N.1 11 0 then key else N.1 12 q := by
        unfold nPut
        rw [n1_ne _ _ _ _ (by omega), n1_sJ, n1_ne _ _ _ _ (by omega), n1_sI]
        by_cases e : q = N.1 11 0 <;> simp [e]
      have r13 : (nPut N key v safe).1 13 q = if q = N.1 11 0 then safe else N.1 13 q := by
        unfold nPut
        rw [n1_ne _ _ _ _ (by omega), n1_sJ, n1_sI]
        by_cases e : q = N.1 11 0
        · simp [e]
        · rw [if_neg (fun r => e r.2), if_neg e, n1_ne _ _ _ _ (by omega)]
      have r2 : (nPut N key v safe).2 12 q = if q = N.1 11 0 then v else N.2 12 q := by
        unfold nPut
        rw [n2_sI, n2_sJ]
        by_cases e : q = N.1 11 0 <;> simp [e, n2_sI]
      rw [r12, r13, r2]
      have hz : zR S8 (ad 5 i) q = if q = N.1 11 0 then some b else zR S (ad 5 i) q := by
        rw [e8, e7]
        show zR (zsR S (ad 5 i) (N.1 11 0) (some b)) (ad 5 i) q = _
        rw [zR_sR]
        by_cases e : q = N.1 11 0 <;> simp [e]
      rw [hz]
      by_cases e : q = N.1 11 0
      · rw [if_pos e, if_pos e, if_pos e, if_pos e]
        exact ⟨b, rfl, zMg_at (hat b (zCV_nm H _ _ _ hm.1) (zCV_nm H _ _ _ hm.1)) hm⟩
      · rw [if_neg e, if_neg e, if_neg e, if_neg e]
        obtain ⟨b', b1, b2⟩ := (cv_n H hi).1.2.2.2.1 q (by omega)
        exact ⟨b', b1, zMg_at (hat b' (zCV_nm H _ _ _ b2.1) (zCV_nm H _ _ _ b2.1)) b2⟩
    · unfold nPut
      rw [n1_ne _ _ _ _ a, n1_sJ, n1_ne _ _ _ _ c, n1_ne _ _ _ _ b]
    · unfold nPut
      rw [n2_sI, n2_ne _ _ _ _ a]
      rfl
  have e9 : zI S8 (ad 4 i) 1 = nI (N.1 11 0 + 1) := by rw [e8, zI_sI, if_pos ⟨rfl, rfl⟩]
  rw [e9]
  exact k S8 H8
theorem c_take (H : zCV Z S0 ad n w S (gN G i N)) (hi : i < n) (hB : N.1 11 0 ≤ 12) {Qp : Option Nat → zS → Prop} (k0 : N.1 11 0 = 0 → Qp none S) (k1 : N.1 11 0 ≠ 0 → ∀ S' b, zMg Z S' b i (N.1 12 0) (N.2 12 0) (N.1 13 0) → zCV Z S0 ad n w S' (gN G i (nShift N)) → Qp (some b) S') : w_X3_takeFirst Z (ad 4 i) S Qp := by
  obtain ⟨-, ⟨p1, p2, p3, p4⟩, -, -, -⟩ := zCV_nd H hi
  have e0 : zI S (ad 4 i) 1 = nI (N.1 11 0) := cv_I H hi 11 (by omega) (by omega)
  have hz : (nI (N.1 11 0) = 0) ↔ N.1 11 0 = 0 := nI_eq (by omega) (by omega : 0 < 2 ^ 31)
  unfold w_X3_takeFirst
  rw [e0, hz]
  refine ⟨p1, fun q => ⟨ad 5 i, p2, p3, by rw [p4]; exact vp_in_nI (n := 0) (by omega) (by omega), fun r6 e6 S7 e7 => ?_⟩, fun q => k0 q⟩
  obtain ⟨b, b1, bm⟩ := (cv_n H hi).1.2.2.2.1 0 (by omega)
  have e6 : r6 = some b := e6.trans b1
  subst e6
  obtain ⟨c, hc⟩ : ∃ c, N.1 11 0 = c + 1 := ⟨N.1 11 0 - 1, by omega⟩
  rw [hc, nI_pred] at e7
  have hn11 : (nShift N).1 11 0 = c := by
    show N.1 11 0 - 1 = c
    omega
  refine zlp2 (fun x S' => ∃ k', k' ≤ c ∧ x = nI k' ∧ zI S' = zI S7 ∧ zJ S' = zJ S7 ∧ (∀ a, a ≠ ad 5 i → zR S' a = zR S7 a) ∧ ∀ j, zR S' (ad 5 i) j = if j < k' then zR S (ad 5 i) (j + 1) else zR S (ad 5 i) j) (fun x _ => 20 - x.toNatClampNeg) (fun rec x S' hI hrec => ?_) _ S7 ⟨0, by omega, rfl, rfl, rfl, fun _ _ => rfl, fun j => by rw [e7, if_neg (by omega)]; rfl⟩
  obtain ⟨k', hk, rfl, g1, g2, g3, g4⟩ := hI
  unfold wb_X3_takeFirst_28
  have e1 : zI S' (ad 4 i) 1 = nI c := by rw [g1, e7, zI_sI, if_pos ⟨rfl, rfl⟩]
  have hle : nI c ≤ nI k' ↔ c ≤ k' := nI_leI (by omega) (by omega)
  rw [e1, hle, nI_1, nI_clamp (by omega), nI_clamp (by omega)]
  have n54 : ad 5 i ≠ ad 4 i := zCV_ne H (fun q => by omega)
  refine ⟨p1, fun q => ?_, fun q => ?_⟩
  · have : k' = c := by omega
    subst this
    have hat : ∀ a, a ≠ ad 4 i → a ≠ ad 5 i → zAt S S' a := fun a h4 h5 => by
      refine ⟨?_, ?_, ?_⟩
      · rw [g1, e7]; exact zu_ne _ _ _ _ _ h4
      · rw [g2, e7]; rfl
      · rw [g3 a h5, e7]; rfl
    refine k1 (by omega) S' b (zMg_at (hat b (zCV_nm H _ _ _ bm.1) (zCV_nm H _ _ _ bm.1)) bm) ?_
    refine c_pend_fin H hi hat (by rw [e1, hn11]) (fun q hq => ?_) (fun f j a b c => ?_) (fun f j a => ?_)
    · rw [hn11] at hq
      obtain ⟨b', b1', b2⟩ := (cv_n H hi).1.2.2.2.1 (q + 1) (by omega)
      refine ⟨b', by rw [g4, if_pos hq]; exact b1', zMg_at (hat b' (zCV_nm H _ _ _ b2.1) (zCV_nm H _ _ _ b2.1)) b2⟩
    · show (if f = 11 ∧ j = 0 then N.1 11 0 - 1 else if f = 12 ∨ f = 13 then N.1 f (j + 1) else N.1 f j) = _
      rw [if_neg (fun r => a r.1), if_neg (by omega)]
    · show (if f = 12 then N.2 12 (j + 1) else N.2 f j) = _
      rw [if_neg a]
  · obtain ⟨b', b1', b2⟩ := (cv_n H hi).1.2.2.2.1 (k' + 1) (by omega)
    refine ⟨ad 5 i, p2, p3, by rw [p4]; exact vp_in_nI (by omega) (by omega), b', by rw [g4, if_neg (by omega)]; exact b1', b2.1, by rw [p4]; exact vp_in_nI (by omega) (by omega), fun S17 e17 y e => ?_⟩
    subst e
    refine hrec _ _ ⟨k' + 1, by omega, rfl, by rw [e17]; exact g1, by rw [e17]; exact g2, fun a ha => ?_, fun j => ?_⟩ ?_
    · rw [e17]; exact (zu_ne _ _ _ _ _ ha).trans (g3 a ha)
    · rw [e17, zR_sR, g4]
      by_cases e : j = k'
      · subst e
        rw [if_pos ⟨rfl, rfl⟩, if_pos (by omega)]
        exact b1'.symm
      · rw [if_neg (fun q => e q.2)]
        by_cases e2 : j < k'
        · rw [if_pos e2, if_pos (by omega)]
        · rw [if_neg e2, if_neg (by omega)]
    · rw [nI_clamp (by omega), nI_clamp (by omega)]
      omega
end
