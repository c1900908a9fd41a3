/-! the reference's send, crash, entry -/
section
variable {Z : zZ} {S0 S : zS} {ar : Nat → Nat} {n w : Nat} {sg : Nat → Nat} {u u' : Nat → Nat → Bool} {G : gT} {i : Nat} {N : nT} {r t l : Nat} {A A' : Nat → Nat → Int32} {B : Nat → Nat → Int64}
theorem ms_put1 (H : zMV Z S0 ar n w sg u S G) (hi : i < n) {c : Nat} (hc : (G.1 i).1 11 0 = c) (hc12 : c < 12) (key : Nat) (v : Int64) (safe : Nat) : zMV Z S0 ar n w sg u (zsI (zsI (zsJ (zsI S (ar 13) (12 * i + c) (nI key)) (ar 14) (12 * i + c) v) (ar 15) (12 * i + c) (nI safe)) (ar 12) i (nI (c + 1))) (gN G i (nPut (G.1 i) key v safe)) := by
  have hinj := H.1.1.2.2
  have hn := (mV_n H).2.2.2.1
  refine zMV_I (zMb_I (zMb_J (zMb_I H.1 (by omega) _ _) (by omega) _ _) (by omega) _ _) (by omega) ?_
  rw [mI_I hinj, mI_J, mI_I hinj, mJ_I, mJ_J hinj, mJ_I]
  have HC := (mn_0 H (i := i)).2
  generalize mI S ar = A at *
  generalize mJ S ar = B at *
  generalize hA' : zu (zu (zu A 13 (12 * i + c) (nI key)) 15 (12 * i + c) (nI safe)) 12 i (nI (c + 1)) = A'
  have e0 : ∀ x, x ≠ 13 → x ≠ 15 → x ≠ 12 → A' x = A x := fun x a b d => by rw [← hA', zu_ne _ _ _ _ _ d, zu_ne _ _ _ _ _ b, zu_ne _ _ _ _ _ a]
  have e13 : ∀ y, A' 13 y = if y = 12 * i + c then nI key else A 13 y := fun y => by rw [← hA', zu_ne _ _ _ _ _ (by omega), zu_ne _ _ _ _ _ (by omega), zu_at]
  have e15 : ∀ y, A' 15 y = if y = 12 * i + c then nI safe else A 15 y := fun y => by rw [← hA', zu_ne _ _ _ _ _ (by omega), zu_at, zu_ne _ _ _ _ _ (by omega)]
  have e12 : ∀ y, A' 12 y = if y = i then nI (c + 1) else A 12 y := fun y => by rw [← hA', zu_at, zu_ne _ _ _ _ _ (by omega), zu_ne _ _ _ _ _ (by omega)]
  have eB : ∀ x, x ≠ 14 → zu B 14 (12 * i + c) v x = B x := fun x a => zu_ne _ _ _ _ _ a
  obtain ⟨p11, p12, p13, pj, pf, pjf⟩ := nPut_f (G.1 i) key v safe
  rw [hc] at p11 p12 p13 pj
  refine mC_node HC (e0 0 (by omega) (by omega) (by omega)) (e0 5 (by omega) (by omega) (by omega)) (fun k hk => ⟨e0 k (by omega) (by omega) (by omega), eB k (by omega)⟩) rfl (pf 2 0 (by omega) (by omega) (by omega)) (fun p => pf 16 p (by omega) (by omega) (by omega)) (fun j hj hji h => ?_) (fun _ h => ?_)
  · obtain ⟨a1, a2, a3, a4⟩ := h
    refine ⟨fun f hf hf2 hf6 hf7 => ?_, ?_, fun y hy h12 => ?_, fun p hp => ?_⟩
    · have := mA_rg f hf hf2
      rw [← a1 f hf hf2 hf6 hf7]
      by_cases e : mA f = 12
      · rw [e, e12, if_neg hji]
      · rw [e0 _ (by omega) (by omega) e]
    · rw [eB 9 (by omega), eB 7 (by omega), eB 23 (by omega)]; exact a2
    · rw [e13, e15, zu_at, if_neg (by omega), if_neg (by omega), if_neg (by omega)]; exact a3 y hy h12
    · rw [e0 19 (by omega) (by omega) (by omega), e0 20 (by omega) (by omega) (by omega), eB 21 (by omega)]; exact a4 p hp
  · obtain ⟨a1, a2, a3, a4⟩ := h
    refine ⟨fun f hf hf2 hf6 hf7 => ?_, ?_, fun y hy h12 => ?_, fun p hp => ?_⟩
    · have := mA_rg f hf hf2
      by_cases e : f = 11
      · subst e
        show A' 12 i = _
        rw [e12, if_pos rfl, p11]
      · have e12' : mA f ≠ 12 := fun z => e (mA_inj f hf hf2 11 (by omega) (by omega) z)
        rw [e0 _ (by omega) (by omega) e12', a1 f hf hf2 hf6 (fun z => by have := hf7 z; rw [pf 2 0 (by omega) (by omega) (by omega)] at this; exact this), pf f 0 e (by omega) (by omega)]
    · rw [eB 9 (by omega), eB 7 (by omega), eB 23 (by omega), pjf 0 0 (by omega)]
      exact ⟨a2.1, fun k hk => by rw [pjf 1 k (by omega)]; exact a2.2.1 k hk, fun k hk => by rw [pjf 2 k (by omega)]; exact a2.2.2 k hk⟩
    · rw [p11] at hy
      rw [p12, p13, pj, e13, e15, zu_at]
      by_cases e : y = c
      · have ec : 12 * i + y = 12 * i + c := by omega
        simp only [if_pos e, if_pos ec]
        exact ⟨trivial, trivial, trivial⟩
      · have ec : ¬ 12 * i + y = 12 * i + c := by omega
        simp only [if_neg e, if_neg ec]
        exact a3 y (by omega) h12
    · rw [e0 19 (by omega) (by omega) (by omega), e0 20 (by omega) (by omega) (by omega), eB 21 (by omega), pf 14 p (by omega) (by omega) (by omega), pf 15 p (by omega) (by omega) (by omega), pjf 14 p (by omega)]; exact a4 p hp
theorem m_sendAll (H : zMV Z S0 ar n w sg uZ S G) (h : gW n G t l) {x y z : Int32} {v : Int64} (hz : z = 0 ∨ z = 1) {Qp : Int32 → zS → Prop} (k1 : ∀ i key, i < n → x = nI i → key < 16 → y = nI key → (G.1 i).1 0 0 ≠ 0 → (G.1 i).1 11 0 < 12 → ∀ S', zMV Z S0 ar n w (sgT sg 0) uZ S' (gN G i (nPut (G.1 i) key v (if z = 0 then 0 else 1))) → Qp (nI ((G.1 i).1 11 0 + 1)) S') (k2 : ∀ i key, i < n → x = nI i → key < 16 → y = nI key → ((G.1 i).1 0 0 = 0 ∨ 12 ≤ (G.1 i).1 11 0) → ∀ S', zMV Z S0 ar n w (sgT sg 2) uZ S' G → Qp 0 S') (k3 : (x < 0 ∨ nI n ≤ x) → ∀ S', zMV Z S0 ar n w (sgT sg 1) uZ S' G → Qp 0 S') (k4 : ∀ i, i < n → x = nI i → (y < 0 ∨ 16 ≤ y) → ∀ S', zMV Z S0 ar n w (sgT sg 1) uZ S' G → Qp 0 S') : w_X7_send Z (ar 0) x y v z S Qp := by
  have hn := mV_n H
  have h9 := W_ne9 h hn.2.2.2.1
  have hbad : ∀ c, c < 10 → c ≠ 0 → (∀ S', zMV Z S0 ar n w (sgT sg c) uZ S' G → Qp 0 S') → wJ_X7_send_48 Z Qp (ar 0) x y v z (nI c) (ar 0) S := fun c hv hv0 hk => by
    unfold wJ_X7_send_48
    refine ⟨mV_0 H, fun S7 e7 => ⟨mV_0 H, fun q => ?_, fun _ => hk S7 ?_⟩⟩
    · rw [e7, zI_sI, if_pos ⟨rfl, rfl⟩] at q
      exact absurd q (thr_le hv hv0)
    · rw [e7]
      exact ms_thr H h9 c
  unfold w_X7_send wJ_X7_send_19 wJ_X7_send_43
  refine ⟨mV_0 H, m_noNode H (fun i hi hx => ⟨fun z => absurd rfl z, fun _ => ?_⟩) (fun hx => ⟨fun _ => hbad 1 (by omega) (by omega) (k3 hx), fun z => absurd z (by decide)⟩)⟩
  obtain ⟨v3, c3⟩ := mv_in8 H (k := 3) (by omega) (by omega) rfl hi
  obtain ⟨v12, c12⟩ := mv_in8 H (k := 12) (by omega) (by omega) rfl hi
  have hx' : x.toNatClampNeg = i := by rw [hx]; exact c3
  have hb := h.1 i hi
  have e0 : zI S (ar 3) i = nI ((G.1 i).1 0 0) := mv_F (mn_0 H (i := i)) hi 0 (by omega) (by omega) (by omega) (by omega)
  have e12 : zI S (ar 12) i = nI ((G.1 i).1 11 0) := mv_F (mn_0 H (i := i)) hi 11 (by omega) (by omega) (by omega) (by omega)
  have z0 : (nI ((G.1 i).1 0 0) = 0) ↔ (G.1 i).1 0 0 = 0 := nI_eq (by omega) (by omega : 0 < 2 ^ 31)
  have z12 : (nI ((G.1 i).1 11 0) = 12) ↔ (G.1 i).1 11 0 = 12 := nI_eq (b := 12) (by omega) (by omega)
  rcases pk_ix y (n := 16) (by omega) with hy | hy | ⟨key, hk, hy⟩
  · exact ⟨fun _ => hbad 1 (by omega) (by omega) (k4 i hi hx (Or.inl hy)), fun q => absurd hy q⟩
  · exact ⟨fun _ => hbad 1 (by omega) (by omega) (k4 i hi hx (Or.inr hy)), fun _ => ⟨fun z => absurd hy (Int32.not_le.mpr z), fun _ => hbad 1 (by omega) (by omega) (k4 i hi hx (Or.inr hy))⟩⟩
  · refine ⟨fun q => absurd q (by rw [hy]; exact nI_pos (by omega)), fun _ => ⟨fun _ => ⟨ar 3, mq_3 H, mkk_3 H, by rw [hx]; exact v3, ?_⟩, fun z => absurd (show y < 16 by rw [hy]; exact nI_lt (a := key) (b := 16) hk (by decide)) z⟩⟩
    rw [hx', e0, z0]
    refine ⟨fun q => hbad 2 (by omega) (by omega) (k2 i key hi hx hk hy (Or.inl q)), fun q => ⟨ar 12, mq_12 H, mkk_12 H, by rw [hx]; exact v12, ?_⟩⟩
    rw [e12, z12]
    refine ⟨fun q2 => ?_, fun q2 => hbad 2 (by omega) (by omega) (k2 i key hi hx hk hy (Or.inr (by omega)))⟩
    have hlt : (G.1 i).1 11 0 < 12 := by omega
    unfold wJ_X7_send_48
    refine ⟨mV_0 H, fun S5 e5 => ⟨mV_0 H, fun _ => ⟨ar 12, mq_12 H, mkk_12 H, by rw [hx]; exact v12, fun y11 e11 => ?_⟩, fun q => ?_⟩⟩
    · have H5 : zMV Z S0 ar n w (sgT sg 0) uZ S5 G := by rw [e5]; exact ms_thr H h9 0
      have e12' : zI S5 (ar 12) i = nI ((G.1 i).1 11 0) := mv_F (mn_0 H5 (i := i)) hi 11 (by omega) (by omega) (by omega) (by omega)
      have k1 := k1 i key hi hx hk hy q hlt
      have ec : (12 : Int32) * nI i + nI ((G.1 i).1 11 0) = nI (12 * i + (G.1 i).1 11 0) := by
        rw [← nI_add]
        exact congrArg (· + nI ((G.1 i).1 11 0)) (pk_mul 12 i)
      rw [hx', e12', hx, ec] at e11
      subst e11
      have hp := fun K (h3 : 3 ≤ K) (hK : K < 36) (hm96 : mln K = 96) => mv_ins H (k := K) (j := 12 * i + (G.1 i).1 11 0) h3 hK hm96 (by omega) (by omega)
      have pc := (hp 13 (by omega) (by omega) rfl).2
      refine ⟨ar 13, mq_13 H, mkk_13 H, (hp 13 (by omega) (by omega) rfl).1, fun S16 e16 => ⟨ar 14, mq_14 H, mkk_14 H, (hp 14 (by omega) (by omega) rfl).1, fun S21 e21 => ⟨ar 15, mq_15 H, mkk_15 H, (hp 15 (by omega) (by omega) rfl).1, hz, fun S26 e26 S28 e28 => ?_⟩⟩⟩
      rw [pc] at e16 e21 e26
      have hinj := H.1.1.2.2
      have e12'' : zI S26 (ar 12) i = nI ((G.1 i).1 11 0) := by
        rw [e26, zI_sI, if_neg (fun z => by have := (hinj 12 15).mp z.1; omega), e21, zI_sJ, e16, zI_sI, if_neg (fun z => by have := (hinj 12 13).mp z.1; omega), e12']
      rw [hx', e12'', nI_1] at e28
      have H28 := ms_put1 H5 hi rfl hlt key v (if z = 0 then 0 else 1)
      have ez : z = nI (if z = 0 then 0 else 1) := by
        rcases hz with e | e <;> rw [e] <;> rfl
      have e28' : S28 = zsI (zsI (zsJ (zsI S5 (ar 13) (12 * i + (G.1 i).1 11 0) (nI key)) (ar 14) (12 * i + (G.1 i).1 11 0) v) (ar 15) (12 * i + (G.1 i).1 11 0) (nI (if z = 0 then 0 else 1))) (ar 12) i (nI ((G.1 i).1 11 0 + 1)) := by rw [e28, e26, e21, e16, hy, ← ez]
      rw [← e28'] at H28
      have er : zI S28 (ar 12) x.toNatClampNeg = nI ((G.1 i).1 11 0 + 1) := by rw [hx', e28, zI_sI, if_pos ⟨rfl, rfl⟩]
      rw [er]
      exact k1 S28 H28
    · rw [e5, zI_sI, if_pos ⟨rfl, rfl⟩] at q
      exact absurd (by decide) q
/-- a node crashes: its ring, up, what waits; a token that it holds -/
theorem mC_crash (H : mC n w sg uZ A B G) (h : gW n G t l) (hi : i < n) (eo : ∀ k, k ≠ 3 → k ≠ 5 → k ≠ 12 → k ≠ 26 → A' k = A k) (e3 : ∀ c, A' 3 c = if c = i then nI 0 else A 3 c) (e5 : ∀ c, A' 5 c = if c = i then -1 else A 5 c) (e12 : ∀ c, A' 12 c = if c = i then nI 0 else A 12 c) (e26 : ((G.2 ((G.1 i).1 2 0)).1 2 0 = i + 1 → ∀ c, A' 26 c = if c = sg ((G.1 i).1 2 0) then nI 1 else A 26 c) ∧ ((G.2 ((G.1 i).1 2 0)).1 2 0 ≠ i + 1 → A' 26 = A 26)) : mC n w sg uZ A' B (gCrash G i) := by
  obtain ⟨c1, c2, c3⟩ := H
  have hnone := h.2.2.2.1.2.2.2.1
  have eI : (gCrash G i).1 i = nLeave (nsI (nsI (G.1 i) 0 0 0) 11 0 0) := g1_Ns _ _ _
  have eJ : ∀ j, j ≠ i → (gCrash G i).1 j = G.1 j := fun j e => g1_Nn _ _ e
  have eI2 : ((gCrash G i).1 i).1 2 0 = 8 := by rw [eI]; rfl
  have eR : ∀ r f x, f ≠ 2 → ((gCrash G i).2 r).1 f x = (G.2 r).1 f x := fun r f x hf => by
    unfold gCrash
    rw [g2_N, g2_R]
    split
    · rename_i q
      unfold rLeave
      split
      · rw [n1_ne _ _ _ _ hf, q]
      · rw [q]
    · rfl
  have eRj : ∀ r, ((gCrash G i).2 r).2 = (G.2 r).2 := fun r => by
    unfold gCrash
    rw [g2_N, g2_R]
    split
    · rename_i q
      unfold rLeave
      split
      · rw [q]; rfl
      · rw [q]
    · rfl
  have eR2 : ∀ r, ((gCrash G i).2 r).1 2 0 = if r = (G.1 i).1 2 0 ∧ (G.2 r).1 2 0 = i + 1 then 0 else (G.2 r).1 2 0 := fun r => by
    unfold gCrash
    rw [g2_N, g2_R]
    split
    · rename_i q
      unfold rLeave
      rw [q]
      split
      · rename_i z
        rw [if_pos ⟨rfl, z⟩, n1_eq]
      · rename_i z
        rw [if_neg (fun y => z y.2)]
    · rename_i q
      rw [if_neg (fun y => q y.1)]
  refine ⟨by rw [eo 0 (by omega) (by omega) (by omega) (by omega)]; exact c1, fun j hj => ?_, fun a b ha hb ha8 hb8 => ?_⟩
  · by_cases e : j = i
    · subst e
      obtain ⟨⟨a1, a2, a3, a4⟩, -, -, -⟩ := c2 j hj
      refine ⟨⟨fun f hf hf2 hf6 hf7 => ?_, ?_, fun y hy h12 => ?_, fun p hp => ?_⟩, ?_, fun h8 => absurd eI2 h8, fun h8 => absurd eI2 h8⟩
      · have := mA_rg f hf hf2
        by_cases e0 : f = 0
        · subst e0
          show A' 3 j = _
          rw [e3, if_pos rfl, eI]
          rfl
        · by_cases e11 : f = 11
          · subst e11
            show A' 12 j = _
            rw [e12, if_pos rfl, eI]
            rfl
          · have f67 : f ≠ 6 ∧ f ≠ 7 := ⟨fun e => hf7 (Or.inl e) eI2, fun e => hf7 (Or.inr e) eI2⟩
            have m3 : mA f ≠ 3 := fun z => e0 (mA_inj f hf hf2 0 (by omega) (by omega) z)
            have m12 : mA f ≠ 12 := fun z => e11 (mA_inj f hf hf2 11 (by omega) (by omega) z)
            rw [eo _ m3 (by omega) m12 (by omega), a1 f hf hf2 (fun _ => rfl) (fun z => by omega), eI, nLeave_ne _ _ (by omega) hf2 f67.1 f67.2, n1_ne _ _ _ _ e11, n1_ne _ _ _ _ e0]
      · rw [eI]; exact a2
      · rw [eI] at hy
        exact absurd hy (Nat.not_lt_zero _)
      · rw [eo 19 (by omega) (by omega) (by omega) (by omega), eo 20 (by omega) (by omega) (by omega) (by omega), eI, nLeave_ne _ _ (by omega) (by omega) (by omega) (by omega), nLeave_ne _ _ (by omega) (by omega) (by omega) (by omega), n1_ne _ _ _ _ (by omega), n1_ne _ _ _ _ (by omega), n1_ne _ _ _ _ (by omega), n1_ne _ _ _ _ (by omega)]
        exact a4 p hp
      · unfold mNr
        rw [e5, if_pos rfl, eI2, if_pos rfl]
    · obtain ⟨⟨a1, a2, a3, a4⟩, b1, b2, b3⟩ := c2 j hj
      unfold mNn
      rw [eJ j e]
      refine ⟨⟨fun f hf hf2 hf6 hf7 => ?_, a2, fun y hy h12 => ?_, fun p hp => ?_⟩, ?_, ?_, fun h8 => ?_⟩
      · have := mA_rg f hf hf2
        rw [← a1 f hf hf2 hf6 hf7]
        by_cases m3 : mA f = 3
        · rw [m3, e3, if_neg e]
        · by_cases m12 : mA f = 12
          · rw [m12, e12, if_neg e]
          · rw [eo _ m3 (by omega) m12 (by omega)]
      · rw [eo 13 (by omega) (by omega) (by omega) (by omega), eo 15 (by omega) (by omega) (by omega) (by omega)]; exact a3 y hy h12
      · rw [eo 19 (by omega) (by omega) (by omega) (by omega), eo 20 (by omega) (by omega) (by omega) (by omega)]; exact a4 p hp
      · unfold mNr
        rw [e5, if_neg e]; exact b1
      · unfold mNh
        rw [eo 33 (by omega) (by omega) (by omega) (by omega), eR _ 3 0 (by omega)]; exact b2
      · obtain ⟨d1, d2, d3, d4, ⟨lo, tk, f1, f2, f3, f4, f5, f6⟩, d6, d7⟩ := b3 h8
        have hsl : ∀ (_ : (G.1 j).1 2 0 ≠ (G.1 i).1 2 0) (_ : (G.1 i).1 2 0 ≠ 8), sg ((G.1 j).1 2 0) ≠ sg ((G.1 i).1 2 0) := fun hne hi8 es => hne (c3 j i hj hi h8 hi8 es)
        unfold mRg
        rw [eo 24 (by omega) (by omega) (by omega) (by omega), eo 25 (by omega) (by omega) (by omega) (by omega), eo 28 (by omega) (by omega) (by omega) (by omega), eo 27 (by omega) (by omega) (by omega) (by omega), eo 29 (by omega) (by omega) (by omega) (by omega), eo 30 (by omega) (by omega) (by omega) (by omega), eo 32 (by omega) (by omega) (by omega) (by omega), eo 34 (by omega) (by omega) (by omega) (by omega), eo 35 (by omega) (by omega) (by omega) (by omega), eR _ 0 0 (by omega), eR _ 1 0 (by omega), eR _ 3 0 (by omega), eRj]
        refine ⟨d1, d2, d3, d4, ?_, fun p p1 p2 => by rw [eR _ 6 p (by omega), eR _ 7 p (by omega), eR _ 8 p (by omega), eR _ 4 p (by omega)]; exact d6 p p1 p2, fun m hm _ => by rw [eR _ 5 m (by omega)]; exact d7 m hm (fun z => Bool.noConfusion (show false = true from z.1))⟩
        rw [eR2]
        by_cases hr : (G.1 j).1 2 0 = (G.1 i).1 2 0
        · by_cases hh : (G.2 ((G.1 i).1 2 0)).1 2 0 = i + 1
          · refine ⟨1, tk, by rw [e26.1 hh, hr, if_pos rfl], by omega, f3, f4, f5, ?_⟩
            rw [if_pos ⟨hr, by rw [hr]; exact hh⟩, if_neg (fun z => by omega)]
          · refine ⟨lo, tk, by rw [e26.2 hh]; exact f1, f2, f3, f4, f5, ?_⟩
            rw [if_neg (fun z => hh (by rw [← z.1]; exact z.2)), f6]
            by_cases et : tk = i
            · subst et
              have hold : ¬ (lo = 0 ∧ (G.1 tk).1 2 0 = (G.1 j).1 2 0) := fun z => by
                rw [if_pos z, hr] at f6
                exact hh f6
              rw [if_neg hold, if_neg (fun z => h8 (z.2.symm.trans eI2))]
            · rw [eJ tk et]
        · have hh : ¬ ((G.1 j).1 2 0 = (G.1 i).1 2 0 ∧ (G.2 ((G.1 j).1 2 0)).1 2 0 = i + 1) := fun z => hr z.1
          refine ⟨lo, tk, ?_, f2, f3, f4, f5, ?_⟩
          · by_cases hh2 : (G.2 ((G.1 i).1 2 0)).1 2 0 = i + 1
            · have hi8 : (G.1 i).1 2 0 ≠ 8 := fun e8 => by
                rw [e8, hnone.2.2] at hh2
                omega
              rw [e26.1 hh2, if_neg (hsl hr hi8)]; exact f1
            · rw [e26.2 hh2]; exact f1
          · rw [if_neg hh, f6]
            by_cases et : tk = i
            · subst et
              rw [if_neg (fun z => hr z.2.symm), if_neg (fun z => h8 (z.2.symm.trans eI2))]
            · rw [eJ tk et]
  · have ha' : a ≠ i := fun e => ha8 (by rw [e]; exact eI2)
    have hb' : b ≠ i := fun e => hb8 (by rw [e]; exact eI2)
    rw [eJ a ha'] at ha8 ⊢
    rw [eJ b hb'] at hb8 ⊢
    exact c3 a b ha hb ha8 hb8
theorem m_crashAll (H : zMV Z S0 ar n w sg uZ S G) (h : gW n G t l) {x : Int32} {Qp : zS → Prop} (k1 : ∀ i, i < n → x = nI i → (G.1 i).1 0 0 ≠ 0 → ∀ S', zMV Z S0 ar n w (sgT sg 0) uZ S' (gCrash G i) → Qp S') (k2 : ∀ i, i < n → x = nI i → (G.1 i).1 0 0 = 0 → ∀ S', zMV Z S0 ar n w (sgT sg 2) uZ S' G → Qp S') (k3 : (x < 0 ∨ nI n ≤ x) → ∀ S', zMV Z S0 ar n w (sgT sg 1) uZ S' G → Qp S') : w_X7_crash Z (ar 0) x S Qp := by
  have hn := mV_n H
  have h9 := W_ne9 h hn.2.2.2.1
  have hinj := H.1.1.2.2
  have hbad : ∀ v, v < 10 → v ≠ 0 → (∀ S', zMV Z S0 ar n w (sgT sg v) uZ S' G → Qp S') → wJ_X7_crash_27 Z Qp (ar 0) x (nI v) (ar 0) S := fun v hv hv0 hk => by
    unfold wJ_X7_crash_27
    refine ⟨mV_0 H, fun S7 e7 => ⟨mV_0 H, fun _ => hk S7 ?_, fun q => ?_⟩⟩
    · rw [e7]
      exact ms_thr H h9 v
    · rw [e7, zI_sI, if_pos ⟨rfl, rfl⟩] at q
      exact absurd q (thr_n0 hv hv0)
  unfold w_X7_crash
  refine ⟨mV_0 H, m_noNode H (fun i hi hx => ⟨fun _ => ?_, fun z => absurd rfl z⟩) (fun hx => ⟨fun z => absurd z (by decide), fun _ => hbad 1 (by omega) (by omega) (k3 hx)⟩)⟩
  subst hx
  have k1 := k1 i hi rfl
  have k2 := k2 i hi rfl
  obtain ⟨v3, c3⟩ := mv_in8 H (k := 3) (by omega) (by omega) rfl hi
  obtain ⟨v5, -⟩ := mv_in8 H (k := 5) (by omega) (by omega) rfl hi
  obtain ⟨v12, -⟩ := mv_in8 H (k := 12) (by omega) (by omega) rfl hi
  have e0 : zI S (ar 3) i = nI ((G.1 i).1 0 0) := mv_F (mn_0 H (i := i)) hi 0 (by omega) (by omega) (by omega) (by omega)
  have z0 : (nI ((G.1 i).1 0 0) = 0) ↔ (G.1 i).1 0 0 = 0 := nI_eq (by have := (h.1 i hi).1.1; omega) (by omega : 0 < 2 ^ 31)
  refine ⟨ar 3, mq_3 H, mkk_3 H, v3, ?_⟩
  rw [c3, e0, z0]
  refine ⟨fun q => hbad 2 (by omega) (by omega) (k2 q), fun q => ?_⟩
  have k1 := k1 q
  unfold wJ_X7_crash_27
  refine ⟨mV_0 H, fun S9 e9 => ⟨mV_0 H, fun z => absurd (by rw [e9, zI_sI, if_pos ⟨rfl, rfl⟩]) z, fun _ => ?_⟩⟩
  have H9 : zMV Z S0 ar n w (sgT sg 0) uZ S9 G := by rw [e9]; exact ms_thr H h9 0
  refine m_holds H9 hi (h.1 i hi).1.1 (h.2.2.2.1.2.2.2.2.1 i hi) h.2.2.2.1.2.2.2.1.2.2 ⟨fun q2 => ?_, fun q2 => ?_⟩
  · have hno : (G.2 ((G.1 i).1 2 0)).1 2 0 ≠ i + 1 := fun z => by
      rw [if_pos z] at q2
      exact absurd q2 (by decide)
    unfold wJ_X7_crash_57
    refine ⟨mV_0 H, ar 3, mq_3 H, mkk_3 H, v3, fun S18 e18 => ⟨ar 5, mq_5 H, mkk_5 H, v5, fun S23 e23 => ⟨ar 12, mq_12 H, mkk_12 H, v12, fun S28 e28 => k1 S28 ?_⟩⟩⟩
    rw [c3] at e18 e23 e28
    rw [e28, e23, e18]
    refine ⟨zMb_I (zMb_I (zMb_I H9.1 (by omega) _ _) (by omega) _ _) (by omega) _ _, ?_⟩
    rw [mI_I hinj, mI_I hinj, mI_I hinj, mJ_I, mJ_I, mJ_I]
    refine mC_crash H9.2 h hi (fun k a b c d => ?_) (fun c => ?_) (fun c => ?_) (fun c => ?_) ⟨fun z => absurd z hno, fun _ => ?_⟩
    · rw [zu_ne _ _ _ _ _ c, zu_ne _ _ _ _ _ b, zu_ne _ _ _ _ _ a]
    · rw [zu_ne _ _ _ _ _ (by omega), zu_ne _ _ _ _ _ (by omega), zu_at]; rfl
    · rw [zu_ne _ _ _ _ _ (by omega), zu_at, zu_ne _ _ _ _ _ (by omega)]
    · rw [zu_at, zu_ne _ _ _ _ _ (by omega), zu_ne _ _ _ _ _ (by omega)]; rfl
    · rw [zu_ne _ _ _ _ _ (by omega), zu_ne _ _ _ _ _ (by omega), zu_ne _ _ _ _ _ (by omega)]
  · have hyes : (G.2 ((G.1 i).1 2 0)).1 2 0 = i + 1 := Classical.byContradiction (fun z => by rw [if_neg z] at q2; exact q2 rfl)
    have hr8 : (G.1 i).1 2 0 ≠ 8 := fun e => by
      have := h.2.2.2.1.2.2.2.1.2.2
      rw [e] at hyes
      omega
    have h5 := mv_5 H9 hi rfl hr8
    have g1 := (mv_R H9 hi rfl hr8).1
    obtain ⟨v26, c26⟩ := mv_ins H (k := 26) (j := sgT sg 0 ((G.1 i).1 2 0)) (m := 16) (by omega) (by omega) rfl (by omega) g1
    refine ⟨ar 26, mq_26 H, ar 5, mq_5 H, mkk_5 H, v5, mkk_26 H, by rw [c3, h5]; exact v26, fun S37 e37 => ?_⟩
    rw [c3, h5, c26] at e37
    unfold wJ_X7_crash_57
    refine ⟨mV_0 H, ar 3, mq_3 H, mkk_3 H, v3, fun S18 e18 => ⟨ar 5, mq_5 H, mkk_5 H, v5, fun S23 e23 => ⟨ar 12, mq_12 H, mkk_12 H, v12, fun S28 e28 => k1 S28 ?_⟩⟩⟩
    rw [c3] at e18 e23 e28
    rw [e28, e23, e18, e37]
    refine ⟨zMb_I (zMb_I (zMb_I (zMb_I H9.1 (by omega) _ _) (by omega) _ _) (by omega) _ _) (by omega) _ _, ?_⟩
    rw [mI_I hinj, mI_I hinj, mI_I hinj, mI_I hinj, mJ_I, mJ_I, mJ_I, mJ_I]
    refine mC_crash H9.2 h hi (fun k a b c d => ?_) (fun c => ?_) (fun c => ?_) (fun c => ?_) ⟨fun _ c => ?_, fun z => absurd hyes z⟩
    · rw [zu_ne _ _ _ _ _ c, zu_ne _ _ _ _ _ b, zu_ne _ _ _ _ _ a, zu_ne _ _ _ _ _ d]
    · rw [zu_ne _ _ _ _ _ (by omega), zu_ne _ _ _ _ _ (by omega), zu_at, zu_ne _ _ _ _ _ (by omega)]; rfl
    · rw [zu_ne _ _ _ _ _ (by omega), zu_at, zu_ne _ _ _ _ _ (by omega), zu_ne _ _ _ _ _ (by omega)]
    · rw [zu_at, zu_ne _ _ _ _ _ (by omega), zu_ne _ _ _ _ _ (by omega), zu_ne _ _ _ _ _ (by omega)]; rfl
    · rw [zu_ne _ _ _ _ _ (by omega), zu_ne _ _ _ _ _ (by omega), zu_ne _ _ _ _ _ (by omega), zu_at]; rfl
theorem m_entryAll (H : zMV Z S0 ar n w sg uZ S G) (h : gW n G t l) (hl : l < 2 ^ 20) {x y z : Int32} {Qp : Int64 → zS → Prop} (k1 : ∀ i k q, i < n → x = nI i → k < min 100 ((G.1 i).1 10 0) → y = nI k → q < 6 → z = nI q → ∀ S', zMV Z S0 ar n w (sgT sg 0) uZ S' G → Qp (gEntry (G.1 i) k q) S') (k2 : ∀ i k, i < n → x = nI i → k < min 100 ((G.1 i).1 10 0) → y = nI k → (z < 0 ∨ 6 ≤ z) → ∀ S', zMV Z S0 ar n w (sgT sg 2) uZ S' G → Qp 0 S') (k3 : (x < 0 ∨ nI n ≤ x) → ∀ S', zMV Z S0 ar n w (sgT sg 1) uZ S' G → Qp 0 S') (k4 : ∀ i, i < n → x = nI i → (y < 0 ∨ nI (min 100 ((G.1 i).1 10 0)) ≤ y) → ∀ S', zMV Z S0 ar n w (sgT sg 1) uZ S' G → Qp 0 S') : w_X7_entry Z (ar 0) x y z S Qp := by
  have hn := mV_n H
  have h9 := W_ne9 h hn.2.2.2.1
  have hbad : ∀ t0 v, v < 10 → v ≠ 0 → (∀ S', zMV Z S0 ar n w (sgT sg v) uZ S' G → Qp 0 S') → wJ_X7_entry_78 Z Qp (ar 0) x y z t0 (nI v) (ar 0) S := fun t0 v hv hv0 hk => by
    unfold wJ_X7_entry_78
    refine ⟨mV_0 H, fun S7 e7 => ⟨mV_0 H, fun q => ?_, fun _ => hk S7 ?_⟩⟩
    · rw [e7, zI_sI, if_pos ⟨rfl, rfl⟩] at q
      exact absurd q (thr_le hv hv0)
    · rw [e7]
      exact ms_thr H h9 v
  -- with the first entry known
  have hgo : ∀ i, i < n → x = nI i → wJ_X7_entry_32 Z Qp (ar 0) x y z (nI ((G.1 i).1 10 0 - min 100 ((G.1 i).1 10 0))) S := fun i hi hx => by
    have hb := (h.2.2.1.1 i hi).2.2.2
    have hm1 : min 100 ((G.1 i).1 10 0) ≤ 100 := Nat.min_le_left _ _
    have hm2 : min 100 ((G.1 i).1 10 0) ≤ (G.1 i).1 10 0 := Nat.min_le_right _ _
    obtain ⟨v18, c18⟩ := mv_in8 H (k := 18) (by omega) (by omega) rfl hi
    have hx' : x.toNatClampNeg = i := by rw [hx]; exact c18
    have e18 : zI S (ar 18) i = nI ((G.1 i).1 10 0) := mv_F (mn_0 H (i := i)) hi 10 (by omega) (by omega) (by omega) (by omega)
    unfold wJ_X7_entry_32 wJ_X7_entry_60 wJ_X7_entry_73
    refine ⟨mV_0 H, m_noNode H (fun i' hi' hx2 => ⟨fun z => absurd rfl z, fun _ => ?_⟩) (fun hx2 => ⟨fun _ => hbad _ 1 (by omega) (by omega) (k3 hx2), fun z => absurd z (by decide)⟩)⟩
    have hmin : (G.1 i).1 10 0 - ((G.1 i).1 10 0 - min 100 ((G.1 i).1 10 0)) = min 100 ((G.1 i).1 10 0) := by omega
    rcases pk_ix y (n := min 100 ((G.1 i).1 10 0)) (by omega) with hy | hy | ⟨k, hk, hy⟩
    · exact ⟨fun _ => hbad _ 1 (by omega) (by omega) (k4 i hi hx (Or.inl hy)), fun q => absurd hy q⟩
    · refine ⟨fun _ => hbad _ 1 (by omega) (by omega) (k4 i hi hx (Or.inr hy)), fun _ => ⟨ar 18, mq_18 H, mkk_18 H, by rw [hx]; exact v18, ?_⟩⟩
      rw [hx', e18, pk_sub (by omega), hmin]
      exact ⟨fun z => absurd hy (Int32.not_le.mpr z), fun _ => hbad _ 1 (by omega) (by omega) (k4 i hi hx (Or.inr hy))⟩
    · refine ⟨fun q => absurd q (by rw [hy]; exact nI_pos (by omega)), fun _ => ⟨ar 18, mq_18 H, mkk_18 H, by rw [hx]; exact v18, ?_⟩⟩
      rw [hx', e18, pk_sub (by omega), hmin]
      refine ⟨fun _ => ?_, fun q => absurd (by rw [hy]; exact nI_lt hk (by omega)) q⟩
      rcases pk_ix z (n := 6) (by omega) with hz | hz | ⟨q, hq, hz⟩
      · exact ⟨fun _ => hbad _ 2 (by omega) (by omega) (k2 i k hi hx hk hy (Or.inl hz)), fun q => absurd hz q⟩
      · refine ⟨fun q => ?_, fun _ => ⟨fun q => ?_, fun _ => hbad _ 2 (by omega) (by omega) (k2 i k hi hx hk hy (Or.inr hz))⟩⟩
        · exact absurd (Int32.lt_of_le_of_lt hz q) (by decide)
        · exact absurd (Int32.le_trans hz q) (by decide)
      · refine ⟨fun p => absurd p (by rw [hz]; exact nI_pos (by omega)), fun _ => ⟨fun _ => ?_, fun p => absurd (show z ≤ 5 by rw [hz]; exact (nI_leI (a := q) (b := 5) (by omega) (by omega)).mpr (by omega)) p⟩⟩
        unfold wJ_X7_entry_78
        refine ⟨mV_0 H, fun S8 e8 => ⟨mV_0 H, fun _ => ⟨ar 23, mq_23 H, mkk_23 H, ?_⟩, fun p => ?_⟩⟩
        · have H8 : zMV Z S0 ar n w (sgT sg 0) uZ S8 G := by rw [e8]; exact ms_thr H h9 0
          have hf : ((G.1 i).1 10 0 - min 100 ((G.1 i).1 10 0) + k) % 100 < 100 := Nat.mod_lt _ (by omega)
          have ec : (6 : Int32) * (100 * x + ((nI ((G.1 i).1 10 0 - min 100 ((G.1 i).1 10 0)) + y) - (nI ((G.1 i).1 10 0 - min 100 ((G.1 i).1 10 0)) + y) / 100 * 100)) + z = nI (600 * i + (((G.1 i).1 10 0 - min 100 ((G.1 i).1 10 0) + k) % 100 * 6 + q)) := by
            rw [hx, hy, hz, nI_add]
            have a1 : nI ((G.1 i).1 10 0 - min 100 ((G.1 i).1 10 0) + k) - nI ((G.1 i).1 10 0 - min 100 ((G.1 i).1 10 0) + k) / 100 * 100 = nI (((G.1 i).1 10 0 - min 100 ((G.1 i).1 10 0) + k) % 100) := pk_rem (d := 100) (by omega) (by omega) (by omega)
            have a2 : (100 : Int32) * nI i = nI (100 * i) := pk_mul 100 i
            rw [a1, a2, nI_add]
            generalize ((G.1 i).1 10 0 - min 100 ((G.1 i).1 10 0) + k) % 100 = m
            have a3 : (6 : Int32) * nI (100 * i + m) = nI (6 * (100 * i + m)) := pk_mul 6 _
            rw [a3, nI_add]
            congr 1
            omega
          obtain ⟨v23, c23⟩ := mv_ins H (k := 23) (j := 600 * i + (((G.1 i).1 10 0 - min 100 ((G.1 i).1 10 0) + k) % 100 * 6 + q)) (m := 4800) (by omega) (by omega) rfl (by omega) (by omega)
          have e23 : zJ S8 (ar 23) (600 * i + (((G.1 i).1 10 0 - min 100 ((G.1 i).1 10 0) + k) % 100 * 6 + q)) = gEntry (G.1 i) k q := (mV_N H8 hi).1.2.1.2.2 _ (by omega)
          rw [ec, c23, e23]
          exact ⟨v23, k1 i k q hi hx hk hy hq hz S8 H8⟩
        · rw [e8, zI_sI, if_pos ⟨rfl, rfl⟩] at p
          exact absurd (by decide) p
  unfold w_X7_entry wJ_X7_entry_19
  refine ⟨mV_0 H, m_noNode H (fun i hi hx => ⟨fun z => absurd rfl z, fun _ => ?_⟩) (fun hx => ⟨fun _ => ?_, fun z => absurd z (by decide)⟩)⟩
  · obtain ⟨v18, c18⟩ := mv_in8 H (k := 18) (by omega) (by omega) rfl hi
    have hx' : x.toNatClampNeg = i := by rw [hx]; exact c18
    have e18 : zI S (ar 18) i = nI ((G.1 i).1 10 0) := mv_F (mn_0 H (i := i)) hi 10 (by omega) (by omega) (by omega) (by omega)
    have hb := (h.2.2.1.1 i hi).2.2.2
    have hgo := hgo i hi hx
    have hle : ((100 : Int32) ≤ nI ((G.1 i).1 10 0)) ↔ 100 ≤ (G.1 i).1 10 0 := nI_leI (a := 100) (by omega) (by omega)
    refine ⟨ar 18, mq_18 H, mkk_18 H, by rw [hx]; exact v18, ?_⟩
    rw [hx', e18, hle]
    refine ⟨fun q => ?_, fun q => ?_⟩
    · rw [Nat.min_eq_left q] at hgo
      have e : nI ((G.1 i).1 10 0) - 100 = nI ((G.1 i).1 10 0 - 100) := pk_sub (b := 100) q
      rw [e]
      exact hgo
    · rw [Nat.min_eq_right (by omega), Nat.sub_self] at hgo
      exact hgo
  · unfold wJ_X7_entry_32 wJ_X7_entry_60 wJ_X7_entry_73
    refine ⟨mV_0 H, m_noNode H (fun i hi hx2 => ?_) (fun hx2 => ⟨fun _ => hbad _ 1 (by omega) (by omega) (k3 hx2), fun z => absurd z (by decide)⟩)⟩
    exfalso
    rcases hx with h | h
    · rw [hx2] at h
      exact nI_pos (by omega) h
    · rw [hx2] at h
      exact nI_ge hi (by omega) h
end
