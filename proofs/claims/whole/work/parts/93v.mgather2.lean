/-! the reference's gather, all of it -/
section
variable {Z : zZ} {S0 S : zS} {ar : Nat → Nat} {n w : Nat} {sg sg' : Nat → Nat} {u u' : Nat → Nat → Bool} {G : gT} {i : Nat} {N : nT} {r t l : Nat}
theorem m_gatherAll (H : zMV Z S0 ar n w sg uZ S G) (h : gW n G t l) (ht : t < 2 ^ 18) (hl : l < 2 ^ 18) {x : Int32} {Qp : Int32 → zS → Prop} (k0 : ∀ i, i < n → x = nI i → (G.1 i).1 0 0 ≠ 0 → whole? G n ((G.1 i).1 2 0) (upSet G n ((G.1 i).1 1 0)) = true → ∀ S', zMV Z S0 ar n w (sgT sg 0) uZ S' G → Qp 0 S') (k1 : ∀ i, i < n → x = nI i → (G.1 i).1 0 0 ≠ 0 → whole? G n ((G.1 i).1 2 0) (upSet G n ((G.1 i).1 1 0)) = false → ∃ c b r, isFore G n (upSet G n ((G.1 i).1 1 0)) c ∧ b < n ∧ (quor (upSet G n ((G.1 i).1 1 0)) ((G.1 c).1 5 0) = true → isFore (gEnded G n (upSet G n ((G.1 i).1 1 0))) n (upSet G n ((G.1 i).1 1 0)) b) ∧ r < n ∧ (∀ j, j < n → (upSet G n ((G.1 i).1 1 0)).testBit j = false → (G.1 j).1 2 0 ≠ r) ∧ ∀ S' sg', sg' 9 = 0 → zMV Z S0 ar n w sg' uZ S' (gGather G n (upSet G n ((G.1 i).1 1 0)) b r (quor (upSet G n ((G.1 i).1 1 0)) ((G.1 c).1 5 0))) → Qp (nI (hxf G (upSet G n ((G.1 i).1 1 0)) n + 1)) S') (k2 : ∀ i, i < n → x = nI i → (G.1 i).1 0 0 = 0 → ∀ S', zMV Z S0 ar n w (sgT sg 2) uZ S' G → Qp 0 S') (k3 : (x < 0 ∨ nI n ≤ x) → ∀ S', zMV Z S0 ar n w (sgT sg 1) uZ S' G → Qp 0 S') : w_X7_gather Z (ar 0) x S Qp := by
  have hn := mV_n H
  have h9 := W_ne9 h hn.2.2.2.1
  have hbad : ∀ v, v < 10 → v ≠ 0 → (∀ S', zMV Z S0 ar n w (sgT sg v) uZ S' G → Qp 0 S') → wJ_X7_gather_27 Z Qp (ar 0) x (nI v) (ar 0) S := fun v hv hv0 hk => by
    unfold wJ_X7_gather_27
    refine ⟨mV_0 H, fun S7 e7 => ⟨mV_0 H, fun q => ?_, fun _ => hk S7 ?_⟩⟩
    · rw [e7, zI_sI, if_pos ⟨rfl, rfl⟩] at q
      exact absurd q (thr_le hv hv0)
    · rw [e7]
      exact ms_thr H h9 v
  unfold w_X7_gather
  refine ⟨mV_0 H, m_noNode H (fun i hi hx => ⟨fun _ => ?_, fun z => absurd rfl z⟩) (fun hx => ⟨fun z => absurd z (by decide), fun _ => hbad 1 (by omega) (by omega) (k3 hx)⟩)⟩
  subst hx
  have k0 := k0 i hi rfl
  have k1 := k1 i hi rfl
  have k2 := k2 i hi rfl
  obtain ⟨v3, c3⟩ := mv_in8 H (k := 3) (by omega) (by omega) rfl hi
  have e0 : zI S (ar 3) i = nI ((G.1 i).1 0 0) := mv_F (mn_0 H (i := i)) hi 0 (by omega) (by omega) (by omega) (by omega)
  have bup : ∀ j, j < n → (G.1 j).1 0 0 < 2 ^ 30 ∧ (G.1 j).1 1 0 < 2 ^ 30 := fun j hj => by have := (h.1 j hj).1; omega
  have z0 : (nI ((G.1 i).1 0 0) = 0) ↔ (G.1 i).1 0 0 = 0 := nI_eq (by have := (h.1 i hi).1.1; omega) (by omega : 0 < 2 ^ 31)
  refine ⟨ar 3, mq_3 H, mkk_3 H, v3, ?_⟩
  rw [c3, e0, z0]
  refine ⟨fun hu => hbad 2 (by omega) (by omega) (k2 hu), fun hu => ?_⟩
  have k0 := k0 hu
  have k1 := k1 hu
  unfold wJ_X7_gather_27
  refine ⟨mV_0 H, fun S7 e7 => ⟨mV_0 H, fun _ => ?_, fun q => ?_⟩⟩
  · have H7 : zMV Z S0 ar n w (sgT sg 0) uZ S7 G := by rw [e7]; exact ms_thr H h9 0
    refine m_together H7 hi bup ?_
    have hsb := fun j => upSet_bit G n ((G.1 i).1 1 0) j
    generalize hs : upSet G n ((G.1 i).1 1 0) = s at *
    have hsn : s < 2 ^ n := hs ▸ mk_lt _ _
    have his : s.testBit i = true := (hsb i).mpr ⟨hi, hu, rfl⟩
    refine m_isWhole H7 h hi hsn his ⟨fun q2 => ?_, fun q2 => k0 ?_ S7 H7⟩
    · obtain ⟨c, b, r, hc, hb, hbf, hr, hno, k1⟩ := k1 (z01_if.mp q2)
      refine m_isPrimary H7 h (by omega) hsn hc ?_
      have hu2 : ∀ j, j < n → s.testBit j = true → (G.1 j).1 0 0 ≠ 0 := fun j hj hb => ((hsb j).mp hb).2.1
      have hW1 : gW n (gEnded G n s) t (l + 201) := W_ended h
      generalize hp : quor s ((G.1 c).1 5 0) = p at *
      -- the form
      have hform : ∀ S' u', (∀ j, u' 5 j = false) → (∀ j, u' 6 j = true → s.testBit j = true) → zMV Z S0 ar n w (sgT sg 0) u' S' (gTabIf (gEnded G n s) n s b p) → wJ_X7_gather_109 Z Qp (ar 0) (nI s) (if p = true then 1 else 0) S' := fun S' u' h5 h6 H' => by
        have hW2 : gW n (gTabIf (gEnded G n s) n s b p) t (l + 201 + 100) := W_tabIf hW1 hb
        have e3 : ∀ j f, f < 6 → ((gTabIf (gEnded G n s) n s b p).1 j).1 f 0 = (G.1 j).1 f 0 := fun j f hf => by rw [gTabIf_ne _ _ _ _ _ _ _ (by omega) (by omega), gEnded_2 _ _ _ _ _ hf]
        unfold wJ_X7_gather_109
        refine ⟨mV_0 H, m_form H' hsn hi his hr (fun j hj hjs => by rw [e3 j 2 (by omega)]; exact hno j hj hjs) (fun j hj => ?_) hW2.2.2.2.1.2.2.1 (fun j hj => by have := (hW2.2.2.1.1 j hj).1; omega) (fun j hj => by have := (hW2.2.2.1.1 j hj).2.2.2; omega) (fun j _ z => h6 j z) h5 (fun S9 sg9 hs9 H9 => ?_)⟩
        · have := (hW2.1 j hj).1.2.2.1
          unfold zri at this
          omega
        · rw [hxf_congr (fun j => e3 j 3 (by omega))]
          exact k1 S9 sg9 (hs9.trans (sgT_9 _ _)) H9
      refine m_endOld H7 h ht hl hsn (fun S2 u2 h5 h6 H2 => ⟨fun q3 => ?_, fun q3 => ?_⟩)
      · have hpf := z01_if.mp q3
        refine hform S2 u2 h5 h6 ?_
        rw [hpf]
        exact H2
      · have hpt : p = true := Classical.byContradiction (fun z => by rw [if_neg z] at q3; exact q3 rfl)
        refine m_share H2 hW1 (by omega) (by omega) hsn (hbf hpt) (fun S3 H3 => hform S3 u2 h5 h6 ?_)
        rw [hpt]
        exact H3
    · exact Classical.byContradiction (fun z => by rw [if_neg z] at q2; exact q2 rfl)
  · rw [e7, zI_sI, if_pos ⟨rfl, rfl⟩] at q
    exact absurd (by decide) q
end
