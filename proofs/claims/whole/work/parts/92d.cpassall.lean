/-! the class's pass -/
section
variable {Z : zZ} {S0 S : zS} {ad : Nat → Nat → Nat} {n w : Nat} {G : gT} {i : Nat} {N : nT} {t l : Nat}
theorem W_bd (h : gW n G t l) (ht : t < 2 ^ 20) (hl : l < 2 ^ 20) : (∀ j, j < n → (G.1 j).1 0 0 < 2 ^ 30 ∧ (G.1 j).1 1 0 < 2 ^ 30) ∧ (∀ j, j < n → (G.1 j).1 4 0 < 2 ^ 30) ∧ ∀ r, rOk (G.2 r) :=
  ⟨fun j hj => ⟨by have := (h.1 j hj).1.1; omega, by have := (h.1 j hj).1.2.1; omega⟩, fun j hj => by have := (h.2.2.1.1 j hj).2.1; omega, fun r => ⟨by have := h.2.2.1.2 r; omega, (h.2.1 r).2.2.2⟩⟩
theorem c_passAll (H : zCV Z S0 ad n w S G) (h : gW n G t l) (ht : t < 2 ^ 19) (hl : l < 2 ^ 19) (hw : w ≤ 8) {x y : Int32} {Qp : Int32 → zS → Prop} {Xp : String → zS → Prop} (k1 : ∀ i, i < n → x = nI i → (G.2 ((G.1 i).1 2 0)).1 2 0 = i + 1 → (G.1 i).1 2 0 ≠ 8 → ∀ S', zCV Z S0 ad n w S' (gPass n w i y G) → Qp (nI (gPassA n w i y G)) S') (k2 : ∀ i, i < n → x = nI i → (G.2 ((G.1 i).1 2 0)).1 2 0 ≠ i + 1 → Xp "java/lang/IllegalStateException" S) (k3 : (x < 0 ∨ nI n ≤ x) → Xp "java/lang/IndexOutOfBoundsException" S) : w_X6_pass Z (ad 0 0) x y S Qp Xp := by
  have hn := zCV_n H
  obtain ⟨r1, r2, r3, r4⟩ := cv_row H
  unfold w_X6_pass
  refine ⟨r1, c_nodeAt H (fun i hi hx => ?_) k3⟩
  subst hx
  have k1 := k1 i hi rfl
  have k2 := k2 i hi rfl
  obtain ⟨⟨d1, d2, d3, d4, d5⟩, -, -, -, -⟩ := zCV_nd H hi
  unfold gPass gPassA at k1
  have hPR := pP_R (G := G) (n := n) (i := i) (x := y)
  have hPb : ∀ j, j < n → bt (nI (recSet G n i) &&& (y ^^^ (-1))) j = pP G i y j := fun j hj => by
    unfold pP
    rw [b_and, bt_nI _ (by omega), bt_not _ (by omega)]
    unfold recSet
    rw [mk_bit, decide_eq_true hj, Bool.true_and]
  generalize hP : pP G i y = P at *
  generalize hr : (G.1 i).1 2 0 = r at *
  have hri : zri n r := hr ▸ (h.1 i hi).1.2.2.1
  obtain ⟨hrk, q0, q1, p1, p2, p3, p4⟩ := zCV_rg H hri
  have hrg : zR S (ad 3 i) 7 = some (ad 12 r) := hr ▸ (cv_g H hi).2.1
  have g4 : zI S (ad 12 r) 4 = nI ((G.2 r).1 2 0) - 1 := (cv_R H hri).1.2.2.1
  have e0 : (nI ((G.2 r).1 2 0) - 1 = nI i) ↔ (G.2 r).1 2 0 = i + 1 := by
    have hb := (h.2.1 r).1.2.1
    constructor
    · intro q
      refine (nI_eq (by omega) (by omega)).mp ?_
      rw [← nI_1, ← q]
      simp
    · intro q
      rw [q]
      exact nI_pred i
  refine ⟨ad 3 i, rfl, d1, ad 12 r, hrg, hrk, ?_⟩
  rw [g4, e0]
  refine ⟨fun q => ?_, k2⟩
  have hr8 : r ≠ 8 := fun e => by
    have := h.2.2.2.1.2.2.2.1.2.2
    rw [← e, q] at this
    omega
  have k1 := k1 q hr8
  obtain ⟨bd1, bd2, bd3⟩ := W_bd h (by omega) (by omega)
  refine c_recv_set H hi bd1 (fun y12 e12 => ?_)
  subst e12
  refine c_req H hi hPb hr hPR.2 (bd3 r) bd2 (h.2.1 r).1.2.2 (h.2.1 r).2.1 (fun S13 H13 => ?_)
  obtain ⟨a1, b1⟩ := W_req (L := (G.2 r).1 3 0) hr8 ((G.2 r).1 3 0) G h hPR rfl (Nat.le_refl _)
  unfold gPa at k1
  generalize gReq n i r P ((G.2 r).1 3 0) ((G.2 r).1 3 0) G = G1 at *
  refine c_send H13 hi hw hPb hri (sOk_of a1 (by omega) hi hr8 b1) (fun S14 H14 => ?_)
  obtain ⟨a2, b2⟩ := W_send hi (by omega) hr8 w _ a1 b1
  generalize gSend n i r P w G1 = G2 at *
  refine ⟨ad 14 r, q1, c_full (N := G2.1 i) (cn_0 H14) hi ⟨p3, by rw [p4]; exact vp_in_nI (by omega) (by omega), fun S21 e21 => ?_⟩⟩
  rw [nI_clamp (by omega)] at e21
  have H21 := cs_Rf H14 hri (j := i) (fulf (G2.1 i) 100)
  rw [← e21] at H21
  have a3 := W_3 (i := i) a2 hr8
  have b3 : pR n i r P (gP3 i r G2) := b2
  have H21' : zCV Z S0 ad n w S21 (gP3 i r G2) := H21
  generalize gP3 i r G2 = G3 at *
  refine c_leastFull H21' hri (fun j hj => by have := (a3.2.1 r).2.2.1 j hj; omega) (fun y24 e24 S25 e25 => ?_)
  have i7 : zI S21 (ad 3 i) 12 = nI ((G3.1 i).1 7 0) := (cv_g H21' hi).1.2 7 (by omega) (by omega)
  have hb7 := (a3.1 i hi).2.1.2.1
  have hlf := lff_le (G3.2 r) 8 100
  have hlt : (nI ((G3.1 i).1 7 0) < nI (lff (G3.2 r) 8 100)) ↔ (G3.1 i).1 7 0 < lff (G3.2 r) 8 100 := nI_ltI (by omega) (by omega)
  have e24' : y24 = nI (if (G3.1 i).1 7 0 < lff (G3.2 r) 8 100 then lff (G3.2 r) 8 100 else (G3.1 i).1 7 0) := by
    rw [e24, i7]
    by_cases z : (G3.1 i).1 7 0 < lff (G3.2 r) 8 100
    · rw [if_pos (hlt.mpr z), if_pos z]
    · rw [if_neg (fun y => z (hlt.mp y)), if_neg z]
  subst e24'
  have H25 := cs_I H21' hi 7 (by omega) (by omega) (v := if (G3.1 i).1 7 0 < lff (G3.2 r) 8 100 then lff (G3.2 r) 8 100 else (G3.1 i).1 7 0) (by omega)
  have H25' : zCV Z S0 ad n w S25 (gP4 i r G3) := by rw [e25]; exact H25
  have a4 := W_4 a3 hi b3.1 hr8
  have b4 := pR_of b3 (fun j => gP4_2 _ i r j)
  generalize gP4 i r G3 = G4 at *
  refine c_miss H25' hi b4.1 (a4.2.1 r).1.2.2 (fun S26 H26 => ?_)
  have H26' : zCV Z S0 ad n w S26 (gP5 i r G4) := H26
  have a5 := W_5 (i := i) a4 hr8
  have b5 : pR n i r P (gP5 i r G4) := b4
  generalize gP5 i r G4 = G5 at *
  obtain ⟨c1, c2, c3⟩ := W_bd a5 (by omega) (by omega)
  have cb := (a5.1 i hi).2.1
  have ct := a5.2.2.1.1 i hi
  refine c_dlv (N := G5.1 i) (R := G5.2 r) (cn_0 H26') hi (by rw [b5.1]) (c3 r) (c2 i hi) cb.1 cb.2.1 (by omega) (by omega) (fun S27 H27 => ?_)
  have H27' : zCV Z S0 ad n w S27 (gP6 i r G5) := H27
  have a6 := W_6 a5 hi b5.1 hr8
  have b6 : ((gP6 i r G5).1 i).1 2 0 = r := by rw [gP6_2]; exact b5.1
  have e6 : dlv (G5.2 r) (100 - (G5.1 i).1 6 0) (G5.1 i) = (gP6 i r G5).1 i := (g1_Ns _ _ _).symm
  rw [e6]
  generalize gP6 i r G5 = G6 at *
  obtain ⟨f1, -, -⟩ := W_bd a6 (by omega) (by omega)
  refine c_on H27' hi b6 (a6.2.1 r).1.1 f1 (fun S29 H29 => k1 S29 H29)
end
