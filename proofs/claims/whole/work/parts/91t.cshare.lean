/-! all of a set share what they have -/
theorem gGets_ne (G : gT) (n s r : Nat) (A : Nat → Bool) (i : Nat) {f : Nat} (j : Nat) (h1 : f ≠ 16) (h2 : f ≠ 14) (h3 : f ≠ 15) : ((gGets G n s r A).1 i).1 f j = (G.1 i).1 f j := by
  show (if i < n ∧ s.testBit i = true then nGets (G.1 i) (G.2 r) A else G.1 i).1 f j = _
  split
  · exact nGets_ne _ _ _ _ h1 h2 h3
  · rfl
theorem gGets_in (G : gT) {n s r i : Nat} (A : Nat → Bool) (h : i < n) (h2 : s.testBit i = true) : (gGets G n s r A).1 i = nGets (G.1 i) (G.2 r) A := if_pos ⟨h, h2⟩
def haveB (G : gT) (s k q : Nat) (p : Nat) : Bool := decide (1 ≤ p) && (decide (p ≤ 100) && (anyf G s p k || (decide (p < q) && decide ((G.1 k).1 16 p ≠ 0))))
section
variable {Z : zZ} {S0 S : zS} {ad : Nat → Nat → Nat} {n w : Nat} {G : gT} {i : Nat} {N : nT}
theorem c_share_in {s r : Nat} (H : zCV Z S0 ad n w S (gGets G n s r (haveA G i s))) (hi : i < n) (his : s.testBit i = true) (hs : ∀ j, j < n → s.testBit j = true → (G.1 j).1 2 0 = r) (hok : rOk (G.2 r)) (h4 : ∀ j, j < n → (G.1 j).1 4 0 < 2 ^ 30) {x4 x5 x2 : Int32} {x3 : Nat} {Qp K : zS → Prop} (k : ∀ S', zCV Z S0 ad n w S' (gGets G n s r (haveA G (i + 1) s)) → K S') : wL_X6_shareAll_52 Z (ad 0 0) (nI s) x2 x3 x4 x5 (ad 3 i) Qp K 1 S := by
  obtain ⟨r1, r2, r3, r4⟩ := cv_row H
  have hn := (zCV_n H).2
  obtain ⟨⟨d1, d2, d3, d4, d5⟩, -, -, -, ⟨f1, f2⟩⟩ := zCV_nd H hi
  have e0 : gGets G n s r (haveA G i s) = gGets G n s r (haveB G s i 1) := gGets_ext _ _ _ _ (fun p => by
    unfold haveA haveB
    by_cases h : 1 ≤ p
    · have : ¬ p < 1 := by omega
      simp [this]
    · simp [h])
  rw [e0] at H
  refine zlp2 (fun x S' => ∃ q, 1 ≤ q ∧ q ≤ 101 ∧ x = nI q ∧ zCV Z S0 ad n w S' (gGets G n s r (haveB G s i q))) (fun x _ => 102 - x.toNatClampNeg) (fun rec x S' hI hrec => ?_) _ S ⟨1, by omega, by omega, rfl, H⟩
  obtain ⟨q, hq1, hq2, rfl, H'⟩ := hI
  unfold wb_X6_shareAll_52
  have hle : (100 : Int32) < nI q ↔ 100 < q := nI_ltI (a := 100) (by omega) (by omega)
  rw [hle, nI_1, nI_clamp (by omega)]
  refine ⟨fun z => ?_, fun z => ?_⟩
  · have : q = 101 := by omega
    subst this
    refine k S' ?_
    have e1 : gGets G n s r (haveA G (i + 1) s) = gGets G n s r (haveB G s i 101) := gGets_ext _ _ _ _ (fun p => by
      show (decide (1 ≤ p) && (decide (p ≤ 100) && (anyf G s p i || (s.testBit i && decide ((G.1 i).1 16 p ≠ 0))))) = _
      unfold haveB
      by_cases h : p ≤ 100
      · have : p < 101 := by omega
        simp [this, his]
      · simp [h])
    rw [e1]
    exact H'
  · have hμ : 102 - (nI (q + 1)).toNatClampNeg < 102 - (nI q).toNatClampNeg := by rw [nI_clamp (by omega), nI_clamp (by omega)]; omega
    have e2 : (gGets G n s r (haveB G s i q)).1 i = nGets (G.1 i) (G.2 r) (haveB G s i q) := gGets_in G _ hi his
    have c := cv_g H' hi
    have hri : ((gGets G n s r (haveB G s i q)).1 i).1 2 0 = r := by rw [gGets_ne _ _ _ _ _ _ _ (by omega) (by omega) (by omega)]; exact hs i hi his
    have h := c.2.2.2.2.2 q (by omega)
    rw [hri, e2, nGets_16] at h
    have eB : haveB G s i q q = anyf G s q i := by
      unfold haveB
      have h1 : q ≤ 100 := by omega
      simp [hq1, h1]
    have eS : ∀ p, p ≠ q → haveB G s i (q + 1) p = haveB G s i q p := fun p hp => by
      unfold haveB
      by_cases h1 : p < q
      · have h2 : p < q + 1 := by omega
        simp [h1, h2]
      · have h2 : ¬ p < q + 1 := by omega
        simp [h1, h2]
    have eT : haveB G s i (q + 1) q = (anyf G s q i || decide ((G.1 i).1 16 q ≠ 0)) := by
      unfold haveB
      have h1 : q ≤ 100 := by omega
      simp [hq1, h1]
    rw [eB] at h
    refine ⟨d1, ad 11 i, d5, f1, by rw [f2]; exact vp_in_nI (by omega) (by omega), fun q2 y e => ?_, fun b q2 => ⟨r1, ?_⟩⟩
    · subst e
      have h0 : (if anyf G s q i = true then 1 else (G.1 i).1 16 q) = 0 := by
        by_cases e : (if anyf G s q i = true then 1 else (G.1 i).1 16 q) = 0
        · exact e
        · obtain ⟨b, b1, -⟩ := h.2 e
          rw [q2] at b1
          exact absurd b1 (by simp)
      have h1 : ¬ anyf G s q i = true := fun z => by rw [if_pos z] at h0; exact absurd h0 (by decide)
      rw [if_neg h1] at h0
      refine hrec _ _ ⟨q + 1, by omega, by omega, rfl, ?_⟩ hμ
      rw [gGets_ext G n s r (A := haveB G s i (q + 1)) (B := haveB G s i q) (fun p => ?_)]
      · exact H'
      · by_cases e : p = q
        · subst e
          rw [eT, eB]
          simp [h0]
        · exact eS p e
    · have h0 : (if anyf G s q i = true then 1 else (G.1 i).1 16 q) ≠ 0 := fun e => by
        rw [h.1 e] at q2
        exact absurd q2 (by simp)
      obtain ⟨b', b1, m⟩ := h.2 h0
      have : b' = b := by rw [q2] at b1; exact (Option.some.inj b1).symm
      subst this
      refine c_give H' (P := fun j => s.testBit j) (fun j hj => bt_nI s (by omega)) (r := r) (fun j hj hjs => by rw [gGets_ne _ _ _ _ _ _ _ (by omega) (by omega) (by omega)]; exact hs j hj hjs) hok (fun j hj => by rw [gGets_ne _ _ _ _ _ _ _ (by omega) (by omega) (by omega)]; exact h4 j hj) (by omega) m (fun S23 H23 y e => ?_)
      subst e
      rw [gGets_s] at H23
      refine hrec _ _ ⟨q + 1, by omega, by omega, rfl, ?_⟩ hμ
      rw [gGets_ext G n s r (A := haveB G s i (q + 1)) (B := fun j => haveB G s i q j || decide (j = q)) (fun p => ?_)]
      · exact H23
      · by_cases e : p = q
        · subst e
          rw [eT]
          by_cases z2 : anyf G s p i = true
          · simp [z2]
          · rw [if_neg z2] at h0
            simp [h0]
        · rw [eS p e]; simp [e]
theorem c_share {s r : Nat} (H : zCV Z S0 ad n w S G) (hs : ∀ j, j < n → s.testBit j = true → (G.1 j).1 2 0 = r) (hok : rOk (G.2 r)) (h4 : ∀ j, j < n → (G.1 j).1 4 0 < 2 ^ 30) (h7 : ∀ j, j < n → (G.1 j).1 7 0 < 2 ^ 30) {Qp : zS → Prop} (k : ∀ S', zCV Z S0 ad n w S' (gShare G n s r) → Qp S') : w_X6_shareAll Z (ad 0 0) (nI s) S Qp := by
  obtain ⟨r1, r2, r3, r4⟩ := cv_row H
  have hn := (zCV_n H).2
  unfold w_X6_shareAll
  refine ⟨r1, ad 1 0, r2, r3, fun y5 e5 => ?_⟩
  rw [r4] at e5
  subst e5
  have hmx : ∀ q, q ≤ n → mxf G s q < 2 ^ 30 := fun q hq => by
    have : mxf G s q ≤ 2 ^ 30 - 1 := mxf_le (fun j hj => by have := h7 j (by omega); omega)
    omega
  have H0 : zCV Z S0 ad n w S (gGets G n s r (haveA G 0 s)) := by
    rw [gGets_0 _ _ _ _ (fun p => by unfold haveA; simp [anyf])]
    exact H
  refine zlp3 (fun a x S' => ∃ k', k' ≤ n ∧ x = nI k' ∧ a = nI (mxf G s k') ∧ zCV Z S0 ad n w S' (gGets G n s r (haveA G k' s))) (fun _ x _ => 9 - x.toNatClampNeg) (fun rec a x S' hI hrec => ?_) _ _ S ⟨0, by omega, rfl, rfl, H0⟩
  obtain ⟨k', hk, rfl, rfl, H'⟩ := hI
  unfold wb_X6_shareAll_14
  have hle : (nI n ≤ nI k') ↔ n ≤ k' := nI_leI (by omega) (by omega)
  rw [hle]
  refine ⟨fun q y34 e34 => ?_, fun q => ?_⟩
  · have : k' = n := by omega
    subst this
    rw [r4] at e34
    subst e34
    have H1 : zCV Z S0 ad k' w S' (gSafe (gGets G k' s r (haveA G k' s)) s (mxf G s k') 0) := by
      unfold gSafe
      rw [gUpd_0]; exact H'
    refine zlp2 (fun y S' => ∃ q', q' ≤ k' ∧ y = nI q' ∧ zCV Z S0 ad k' w S' (gSafe (gGets G k' s r (haveA G k' s)) s (mxf G s k') q')) (fun y _ => 9 - y.toNatClampNeg) (fun rec y S' hI hrec => ?_) _ S' ⟨0, by omega, rfl, H1⟩
    obtain ⟨q', hq, rfl, H2⟩ := hI
    unfold wb_X6_shareAll_109
    have hle : (nI k' ≤ nI q') ↔ k' ≤ q' := nI_leI (by omega) (by omega)
    rw [hle]
    refine ⟨fun z => ?_, fun z => ?_⟩
    · have : q' = k' := by omega
      subst this
      exact k S' H2
    · have hq2 : q' < k' := by omega
      obtain ⟨v1, v2, v3⟩ := cv_at H2 hq2
      have c := (cv_g H2 hq2).1
      have hμ : 9 - (nI (q' + 1)).toNatClampNeg < 9 - (nI q').toNatClampNeg := by rw [nI_clamp (by omega), nI_clamp (by omega)]; omega
      rw [nI_1]
      refine ⟨r3, v1, ad 3 q', v2, v3, ?_⟩
      unfold w_X6_isIn
      rw [c.1, isc _ (by omega), bt_nI _ (by omega)]
      refine ⟨fun q3 => ⟨fun _ y e => ?_, fun z => absurd rfl z⟩, fun q3 => ⟨fun z => absurd z (by decide), fun _ S43 e43 y e => ?_⟩⟩
      · subst e
        refine hrec _ _ ⟨q' + 1, by omega, rfl, ?_⟩ hμ
        unfold gSafe
        rw [gUpd_s0 _ _ q3]; exact H2
      · subst e
        have q4 : s.testBit q' = true := by simpa using q3
        have H3 := cn_0 H2 (i := q')
        unfold gSafe at H3
        rw [gUpd_at] at H3
        have H4 := cn_I H3 hq2 7 (by omega) (by omega) (v := mxf G s k') (by omega)
        have e43' : S43 = zsI S' (ad (cT 7) q') (cS 7) (nI (mxf G s k')) := e43
        rw [← e43'] at H4
        refine hrec _ _ ⟨q' + 1, by omega, rfl, ?_⟩ hμ
        unfold gSafe
        rw [gUpd_s1 _ _ q4]; exact H4
  · have hkk : k' < n := by omega
    obtain ⟨v1, v2, v3⟩ := cv_at H' hkk
    have c := (cv_g H' hkk).1
    have hμ : 9 - (nI (k' + 1)).toNatClampNeg < 9 - (nI k').toNatClampNeg := by rw [nI_clamp (by omega), nI_clamp (by omega)]; omega
    rw [nI_1]
    refine ⟨r3, v1, ad 3 k', v2, v3, ?_⟩
    unfold w_X6_isIn
    rw [c.1, isc _ (by omega), bt_nI _ (by omega)]
    have i7 : zI S' (ad 3 k') 12 = nI ((G.1 k').1 7 0) := (c.2 7 (by omega) (by omega)).trans (by rw [gGets_ne _ _ _ _ _ _ _ (by omega) (by omega) (by omega)])
    refine ⟨fun q3 => ⟨fun _ y e => ?_, fun z => absurd rfl z⟩, fun q3 => ⟨fun z => absurd z (by decide), fun _ y14 e14 => ?_⟩⟩
    · subst e
      refine hrec _ _ _ ⟨k' + 1, by omega, rfl, ?_, ?_⟩ hμ
      · have : mxf G s (k' + 1) = mxf G s k' := if_neg (fun z => by rw [q3] at z; exact absurd z.1 (by decide))
        rw [this]
      · rw [gGets_ext G n s r (A := haveA G (k' + 1) s) (B := haveA G k' s) (fun p => ?_)]
        · exact H'
        · show (decide (1 ≤ p) && (decide (p ≤ 100) && (anyf G s p k' || (s.testBit k' && decide ((G.1 k').1 16 p ≠ 0))))) = _
          rw [q3]
          unfold haveA
          simp
    · have q4 : s.testBit k' = true := by simpa using q3
      rw [i7] at e14
      have b7 := h7 k' hkk
      have bm := hmx k' hk
      have hl : (nI (mxf G s k') < nI ((G.1 k').1 7 0)) ↔ mxf G s k' < (G.1 k').1 7 0 := nI_ltI (by omega) (by omega)
      have e14' : y14 = nI (mxf G s (k' + 1)) := by
        rw [e14]
        show _ = nI (if s.testBit k' = true ∧ mxf G s k' < (G.1 k').1 7 0 then (G.1 k').1 7 0 else mxf G s k')
        by_cases z : mxf G s k' < (G.1 k').1 7 0
        · rw [if_pos (hl.mpr z), if_pos ⟨q4, z⟩]
        · rw [if_neg (fun y => z (hl.mp y)), if_neg (fun y => z y.2)]
      subst e14'
      exact c_share_in H' hkk q4 hs hok h4 (fun S28 H28 y29 e29 => e29 ▸ hrec _ _ _ ⟨k' + 1, by omega, rfl, rfl, H28⟩ hμ)
end
