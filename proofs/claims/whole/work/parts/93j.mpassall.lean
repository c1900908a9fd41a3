/-! the reference's pass -/
def uZ : Nat → Nat → Bool := fun _ _ => false
def sgT (sg : Nat → Nat) (v : Nat) : Nat → Nat := fun k => if k = 9 then v else sg k
theorem sgT_r {sg : Nat → Nat} {v r : Nat} (h : r ≠ 9) : sgT sg v r = sg r := if_neg h
theorem sgT_9 (sg : Nat → Nat) (v : Nat) : sgT sg v 9 = v := if_pos rfl
section
variable {Z : zZ} {S0 S : zS} {ar : Nat → Nat} {n w : Nat} {sg : Nat → Nat} {u u' : Nat → Nat → Bool} {G : gT} {i : Nat} {N : nT} {r t l : Nat}
theorem ms_thr (H : zMV Z S0 ar n w sg u S G) (h9 : ∀ j, j < n → (G.1 j).1 2 0 ≠ 9) (v : Nat) : zMV Z S0 ar n w (sgT sg v) u (zsI S (ar 0) 0 (nI v)) G := by
  refine zMV_I H.1 (by omega) ?_
  have e0 : ∀ k, k ≠ 0 → zu (mI S ar) 0 0 (nI v) k = mI S ar k := fun k hk => zu_ne _ _ _ _ _ hk
  obtain ⟨⟨⟨c1, c1', c1''⟩, -⟩, c2, c3⟩ := H.2
  refine ⟨⟨⟨?_, ?_, c1''⟩, ?_⟩, fun j hj => ⟨?_, ?_, ?_, fun h8 => ?_⟩, fun a b ha hb ha8 hb8 => ?_⟩
  · rw [zu_at, if_neg (by omega)]; exact c1
  · rw [zu_at, if_neg (by omega)]; exact c1'
  · rw [zu_at, if_pos rfl, sgT_9]
  · obtain ⟨a1, a2, a3, a4⟩ := (c2 j hj).1
    refine ⟨fun f hf hf2 hf6 hf7 => ?_, a2, fun k hk h12 => ?_, fun q hq => ?_⟩
    · have := mA_rg f hf hf2
      rw [e0 _ (by omega)]; exact a1 f hf hf2 hf6 hf7
    · rw [e0 13 (by omega), e0 15 (by omega)]; exact a3 k hk h12
    · rw [e0 19 (by omega), e0 20 (by omega)]; exact a4 q hq
  · unfold mNr
    rw [e0 5 (by omega), sgT_r (h9 j hj)]; exact (c2 j hj).2.1
  · unfold mNh
    rw [e0 33 (by omega), sgT_r (h9 j hj)]; exact (c2 j hj).2.2.1
  · have z := (c2 j hj).2.2.2 h8
    unfold mRg at z ⊢
    rw [sgT_r (h9 j hj), e0 24 (by omega), e0 25 (by omega), e0 28 (by omega), e0 26 (by omega), e0 27 (by omega), e0 29 (by omega), e0 30 (by omega), e0 32 (by omega), e0 34 (by omega), e0 35 (by omega)]
    exact z
  · rw [sgT_r (h9 a ha), sgT_r (h9 b hb)]
    exact c3 a b ha hb ha8 hb8
theorem W_ne9 (h : gW n G t l) (hn : n ≤ 8) : ∀ j, j < n → (G.1 j).1 2 0 ≠ 9 := fun j hj => by
  have := (h.1 j hj).1.2.2.1
  unfold zri at this
  omega
theorem m_noNode (H : zMV Z S0 ar n w sg u S G) {x : Int32} {Qp : Int32 → zS → Prop} (k1 : ∀ i, i < n → x = nI i → Qp 0 S) (k2 : (x < 0 ∨ nI n ≤ x) → Qp 1 S) : w_X7_noNode Z (ar 0) x S Qp := by
  have hn := mV_n H
  unfold w_X7_noNode
  rw [hn.1]
  rcases pk_ix x (n := n) (by omega) with h | h | ⟨j, hj, hx⟩
  · exact ⟨fun _ => k2 (Or.inl h), fun q => absurd h q⟩
  · exact ⟨fun q => k2 (Or.inl q), fun _ => ⟨mV_0 H, fun q => absurd h (Int32.not_le.mpr q), fun _ => k2 (Or.inr h)⟩⟩
  · refine ⟨fun q => absurd q (by rw [hx]; exact nI_pos (by omega)), fun _ => ⟨mV_0 H, fun _ => k1 j hj hx, fun q => absurd (by rw [hx]; exact nI_lt hj (by omega)) q⟩⟩
theorem W_has0 (h : gW n G t l) (hi : i < n) (hr : (G.1 i).1 2 0 = r) : ∀ p, p < 101 → (G.2 r).1 3 0 < p → (G.1 i).1 16 p = 0 := fun p hp hl => by
  refine Classical.byContradiction (fun z => ?_)
  have := h.2.2.2.1.1 i hi p z
  rw [hr] at this
  omega
theorem thr_le {v : Nat} (hv : v < 10) (h0 : v ≠ 0) : ¬ (nI v ≤ 0) := nI_nle (by omega) (by omega)
theorem m_passAll (H : zMV Z S0 ar n w sg uZ S G) (h : gW n G t l) (ht : t < 2 ^ 18) (hl : l < 2 ^ 18) {x y : Int32} {Qp : Int32 → zS → Prop} (k1 : ∀ i, i < n → x = nI i → (G.2 ((G.1 i).1 2 0)).1 2 0 = i + 1 → ∀ S', zMV Z S0 ar n w (sgT sg 0) uZ S' (gPass n w i y G) → Qp (nI (gPassA n w i y G)) S') (k2 : ∀ i, i < n → x = nI i → (G.2 ((G.1 i).1 2 0)).1 2 0 ≠ i + 1 → ∀ S', zMV Z S0 ar n w (sgT sg 2) uZ S' G → Qp 0 S') (k3 : (x < 0 ∨ nI n ≤ x) → ∀ S', zMV Z S0 ar n w (sgT sg 1) uZ S' G → Qp 0 S') : w_X7_pass Z (ar 0) x y S Qp := by
  have hn := mV_n H
  have h9 := W_ne9 h hn.2.2.2.1
  have hbad : ∀ v, v < 10 → v ≠ 0 → (∀ S', zMV Z S0 ar n w (sgT sg v) uZ S' G → Qp 0 S') → wJ_X7_pass_26 Z Qp (ar 0) x y (nI v) (ar 0) S := fun v hv hv0 hk => by
    unfold wJ_X7_pass_26
    refine ⟨mV_0 H, fun S7 e7 => ⟨mV_0 H, fun q => ?_, fun _ => hk S7 ?_⟩⟩
    · rw [e7, zI_sI, if_pos ⟨rfl, rfl⟩] at q
      exact absurd q (thr_le hv hv0)
    · rw [e7]
      exact ms_thr H h9 v
  unfold w_X7_pass
  refine ⟨mV_0 H, m_noNode H (fun i hi hx => ⟨fun _ => ?_, fun z => absurd rfl z⟩) (fun hx => ⟨fun z => absurd z (by decide), fun _ => hbad 1 (by omega) (by omega) (k3 hx)⟩)⟩
  subst hx
  have k1 := k1 i hi rfl
  have k2 := k2 i hi rfl
  refine m_holds H hi (h.1 i hi).1.1 (h.2.2.2.1.2.2.2.2.1 i hi) h.2.2.2.1.2.2.2.1.2.2 ⟨fun q => hbad 2 (by omega) (by omega) (k2 ?_), fun q => ?_⟩
  · intro z
    rw [if_pos z] at q
    exact absurd q (by decide)
  · have hho : (G.2 ((G.1 i).1 2 0)).1 2 0 = i + 1 := by
      by_cases c : (G.2 ((G.1 i).1 2 0)).1 2 0 = i + 1
      · exact c
      · rw [if_neg c] at q; exact absurd rfl q
    have k1 := k1 hho
    have hr8 : (G.1 i).1 2 0 ≠ 8 := fun e => by
      have := h.2.2.2.1.2.2.2.1.2.2
      rw [e] at hho
      omega
    unfold wJ_X7_pass_26
    refine ⟨mV_0 H, fun S7 e7 => ⟨mV_0 H, fun _ => ?_, fun q => ?_⟩⟩
    · have H7 : zMV Z S0 ar n w (sgT sg 0) uZ S7 G := by rw [e7]; exact ms_thr H h9 0
      unfold gPass gPassA at k1
      have hPR := pP_R (G := G) (n := n) (i := i) (x := y)
      generalize hP : pP G i y = P at *
      generalize hr : (G.1 i).1 2 0 = r at *
      generalize sgT sg 0 = sg' at *
      obtain ⟨v5, c5⟩ := mv_in8 H (k := 5) (by omega) (by omega) rfl hi
      have h5 := mv_5 H7 hi hr hr8
      have g1 := (mv_R H7 hi hr hr8).1
      have hl100 := (h.2.1 r).1.2.2
      refine ⟨ar 5, mq_5 H, mkk_5 H, v5, fun y13 e13 => ⟨ar 35, mq_35 H, ?_⟩⟩
      rw [c5, h5] at e13
      subst e13
      have e8 : (8 : Int32) * nI (sg' r) + nI i = nI (8 * sg' r + i) := by
        rw [← nI_add]
        exact congrArg (· + nI i) (pk_mul 8 _)
      obtain ⟨v35, c35⟩ := mv_ins H (k := 35) (j := 8 * sg' r + i) (m := 128) (by omega) (by omega) rfl (by omega) (by omega)
      have Hh := ms_hide H7 (u' := uOn5 uZ i) (fun j h => rfl) (fun j h => rfl)
      refine m_full (N := G.1 i) (R := G.2 r) (mn_0 Hh) hi (by rw [hr]; exact hr8) (by rw [hr]) hl100 (W_has0 h hi hr) ⟨mkk_35 H, by rw [e8]; exact v35, fun S20 e20 => ?_⟩
      rw [e8, c35] at e20
      have H20 := ms_R5h Hh hi (by rw [hr]; exact hr8) (uOn5_t uZ i) (nI (fulf (G.1 i) 100))
      rw [hr, ← e20] at H20
      obtain ⟨a1, b1⟩ := W_req (L := (G.2 r).1 3 0) hr8 ((G.2 r).1 3 0) G h hPR rfl (Nat.le_refl _)
      refine m_req H20 h (by omega) hi hr8 hPR rfl hP (fun S42 H42 => ?_)
      have e012 : pP (gReq n i r P ((G.2 r).1 3 0) ((G.2 r).1 3 0) G) i y = P := by
        have : ∀ (k : Nat) (G' : gT), pP G' i y = P → pP (gReq n i r P ((G.2 r).1 3 0) k G') i y = P := by
          intro k
          induction k with
          | zero => intro G' h; exact h
          | succ k ih =>
            intro G' h
            unfold gReq
            exact ih _ ((pP_congr y (gReq1_012 _ _ _ _ _ _)).trans h)
        exact this _ G hP
      unfold gPa at k1
      generalize gReq n i r P ((G.2 r).1 3 0) ((G.2 r).1 3 0) G = G1 at *
      refine m_give H42 a1 (by omega) hi hr8 b1 e012 (fun S43 H43 => ?_)
      obtain ⟨a2, b2⟩ := W_send hi (by omega) hr8 w _ a1 b1
      generalize gSend n i r P w G1 = G2 at *
      refine m_full (N := G2.1 i) (R := G2.2 r) (mn_0 H43) hi (by rw [b2.1]; exact hr8) (by rw [b2.1]) (a2.2.1 r).1.2.2 (W_has0 a2 hi b2.1) (fun S46 e46 => ?_)
      rw [e8, c35] at e46
      have H46 := ms_R5 H43 hi b2.1 hr8 (fulf (G2.1 i) 100)
      rw [uOff5_on uZ i rfl, ← e46] at H46
      have a3 := W_3 (i := i) a2 hr8
      have b3 : pR n i r P (gP3 i r G2) := b2
      have H46' : zMV Z S0 ar n w sg' uZ S46 (gP3 i r G2) := H46
      generalize gP3 i r G2 = G3 at *
      refine m_least154 H46' hi b3.1 hr8 (a3.2.1 r).1.1 (a3.2.1 r).2.2.1 (fun j => rfl) ?_
      obtain ⟨v17, c17⟩ := mv_in8 H (k := 17) (by omega) (by omega) rfl hi
      have i7 : zI S46 (ar 17) i = nI ((G3.1 i).1 7 0) := mv_F (mn_0 H46' (i := i)) hi 7 (by omega) (by omega) (by omega) (fun _ => by rw [b3.1]; exact hr8)
      have hb7 := (a3.1 i hi).2.1.2.1
      have hlf := lff_le (G3.2 r) 8 100
      have hlt : (nI (lff (G3.2 r) 8 100) ≤ nI ((G3.1 i).1 7 0)) ↔ lff (G3.2 r) 8 100 ≤ (G3.1 i).1 7 0 := nI_leI (by omega) (by omega)
      have a4 := W_4 a3 hi b3.1 hr8
      have b4 := pR_of b3 (fun j => gP4_2 _ i r j)
      -- the rest, once safe to is written
      have hrest : ∀ S97, zMV Z S0 ar n w sg' uZ S97 (gP4 i r G3) → wL_X7_pass_244 Z (ar 0) (nI i) (nI (sg' r)) Qp (fun (S98 : zS) => w_X7_deliverAll Z (ar 0) (nI i) S98 (fun (v100 : Int32) (S99 : zS) => w_X7_goesOn Z (ar 0) (nI i) S99 (fun (S101 : zS) => Qp v100 S101))) 1 S97 := fun S97 H97 => by
        generalize gP4 i r G3 = G4 at *
        refine m_miss H97 a4 hi b4.1 hr8 (fun S98 H98 => ?_)
        have H98' : zMV Z S0 ar n w sg' uZ S98 (gP5 i r G4) := H98
        have a5 := W_5 (i := i) a4 hr8
        have b5 : pR n i r P (gP5 i r G4) := b4
        generalize gP5 i r G4 = G5 at *
        obtain ⟨c1, c2, c3⟩ := W_bd a5 (by omega) (by omega)
        have cb := (a5.1 i hi).2.1
        have ct := a5.2.2.1.1 i hi
        have hnum := a5.2.2.2.2.1.2.1 i hi (by rw [b5.1]; exact hr8)
        rw [b5.1] at hnum
        refine m_dlv (N := G5.1 i) (R := G5.2 r) (mn_0 H98') rfl hi (by rw [b5.1]; exact hr8) (by rw [b5.1]) (c3 r) hnum (c2 i hi) cb.1 cb.2.1 (by omega) (by omega) (a5.2.1 r).1.2.2 (W_has0 a5 hi b5.1) (fun S99 H99 => ?_)
        have H99' : zMV Z S0 ar n w sg' uZ S99 (gP6 i r G5) := H99
        have a6 := W_6 a5 hi b5.1 hr8
        have b6 : ((gP6 i r G5).1 i).1 2 0 = r := by rw [gP6_2]; exact b5.1
        have e6 : dlv (G5.2 r) (100 - (G5.1 i).1 6 0) (G5.1 i) = (gP6 i r G5).1 i := (g1_Ns _ _ _).symm
        rw [e6]
        generalize gP6 i r G5 = G6 at *
        obtain ⟨f1, -, -⟩ := W_bd a6 (by omega) (by omega)
        have hmi := a6.2.2.2.2.1.1 i hi (by rw [b6]; exact hr8)
        rw [b6] at hmi
        exact m_on H99' hi b6 hr8 (a6.2.1 r).1.1 hmi f1 (fun S101 H101 => k1 S101 H101)
      refine ⟨ar 17, mq_17 H, mkk_17 H, v17, ?_⟩
      rw [c17, i7, hlt]
      have H71 := ms_F (mn_0 H46' (i := i)) 7 (by omega) (by omega) (v := if (G3.1 i).1 7 0 < lff (G3.2 r) 8 100 then lff (G3.2 r) 8 100 else (G3.1 i).1 7 0) (by omega)
      refine ⟨fun q2 S71 e71 => hrest S71 ?_, fun q2 S97 e97 => hrest S97 ?_⟩
      · rw [if_neg (by omega)] at H71
        unfold gP4
        rw [if_neg (by omega), e71]
        exact H71
      · rw [if_pos (by omega)] at H71
        unfold gP4
        rw [if_pos (by omega), e97]
        exact H71
    · rw [e7, zI_sI, if_pos ⟨rfl, rfl⟩] at q
      exact absurd (by decide) q
end
