/-! the reference delivers -/
section
variable {Z : zZ} {S0 S : zS} {ar : Nat → Nat} {n w : Nat} {sg : Nat → Nat} {u u' : Nat → Nat → Bool} {G : gT} {i : Nat} {N : nT}
theorem z01_if {b : Bool} : ((if b = true then (1 : Int32) else 0) = 0) ↔ b = false := by
  cases b <;> simp
/-- the cells of node i's ring at place p -/
theorem mv_pl (H : zMV Z S0 ar n w sg u S (gN G i N)) (hi : i < n) (h8 : N.1 2 0 ≠ 8) {R : nT} (hR : G.2 (N.1 2 0) = R) : sg (N.1 2 0) < 16 ∧ zI S (ar 5) i = nI (sg (N.1 2 0)) ∧ zI S (ar 24) (sg (N.1 2 0)) = nI (R.1 0 0) ∧ zI S (ar 28) (sg (N.1 2 0)) = nI (R.1 3 0) ∧ ∀ p, 1 ≤ p → p ≤ R.1 3 0 → zI S (ar 29) (101 * sg (N.1 2 0) + p) = nI (R.1 6 p) ∧ zI S (ar 30) (101 * sg (N.1 2 0) + p) = nI (R.1 7 p) ∧ zJ S (ar 31) (101 * sg (N.1 2 0) + p) = R.2 6 p ∧ zI S (ar 32) (101 * sg (N.1 2 0) + p) = nI (R.1 8 p) ∧ zI S (ar 34) (101 * sg (N.1 2 0) + p) = nI (R.1 4 p) := by
  subst hR
  obtain ⟨g1, g2, g3, g4, -, g6, -⟩ := (mv_n H hi).2.2.2 h8
  exact ⟨g1, (mv_r H hi).trans (if_neg h8), g2, g4, g6⟩
theorem m_del (H : zMV Z S0 ar n w sg u S (gN G i N)) (hu : u 6 i = true) (hi : i < n) (h8 : N.1 2 0 ≠ 8) {R : nT} (hR : G.2 (N.1 2 0) = R) (hok : rOk R) (hnum : 1 ≤ R.1 0 0) (h4 : N.1 4 0 < 2 ^ 30) (h10 : N.1 10 0 < 2 ^ 30) (h8' : N.1 8 0 < 2 ^ 30) {p : Nat} (h1 : 1 ≤ p) (h2 : p ≤ R.1 3 0) (h100 : R.1 3 0 ≤ 100) {may : Bool} {Qp : zS → Prop} (k : ∀ S', zMV Z S0 ar n w sg u S' (gN G i (if may = true then nDel N R p else nTellM N (R.1 0 0) p (R.1 6 p) (R.1 7 p) (R.2 6 p))) → Qp S') : w_X7_deliver Z (ar 0) (nI i) (nI p) (if may = true then 1 else 0) S Qp := by
  subst hR
  have hn := (mV_n H).2.2.2.1
  obtain ⟨g1, g5, g24, g28, gp⟩ := mv_pl H hi h8 rfl
  obtain ⟨p29, p30, p31, p32, p34⟩ := gp p h1 h2
  obtain ⟨o1, o2⟩ := hok
  obtain ⟨o6, o7, o8⟩ := o2 p (by omega)
  obtain ⟨v1, v2⟩ := mv_in8 H (k := 5) (by omega) (by omega) rfl hi
  have hc := fun k (h3 : 3 ≤ k) (hk : k < 36) (hm : mln k = 1616) => mv_ins H (k := k) (j := 101 * sg (N.1 2 0) + p) h3 hk hm (by omega) (by omega)
  have hsl := fun k (h3 : 3 ≤ k) (hk : k < 36) (hm : mln k = 16) => mv_ins H (k := k) (j := sg (N.1 2 0)) h3 hk hm (by omega) g1
  have c1 := (hc 29 (by omega) (by omega) rfl).2
  have c2 := (hsl 24 (by omega) (by omega) rfl).2
  unfold w_X7_deliver
  refine ⟨mV_0 H, ar 5, mq_5 H, mkk_5 H, v1, ?_⟩
  rw [v2, g5]
  refine m_place ⟨ar 29, mq_29 H, mkk_29 H, (hc 29 (by omega) (by omega) rfl).1, ar 30, mq_30 H, mkk_30 H, (hc 30 (by omega) (by omega) rfl).1, ar 31, mq_31 H, mkk_31 H, (hc 31 (by omega) (by omega) rfl).1, ar 24, mq_24 H, mkk_24 H, by rw [g5]; exact (hsl 24 (by omega) (by omega) rfl).1, ?_⟩
  rw [c1, p29, p30, p31, g5, c2, g24, nI_l (by omega), nI_l (by omega), nI_l (by omega), nI_l (by omega)]
  refine m_tell (ms_any H hu p) hi (by rw [n1_ne _ _ _ _ (by omega)]; exact h10) (fun S24 H24 => ?_)
  have e1 : nTell (nsI N 6 0 p) 1 (lN p) (lN ((G.2 (N.1 2 0)).1 6 p)) (lN ((G.2 (N.1 2 0)).1 7 p)) ((G.2 (N.1 2 0)).2 6 p) (lN ((G.2 (N.1 2 0)).1 0 0)) = nTellM N ((G.2 (N.1 2 0)).1 0 0) p ((G.2 (N.1 2 0)).1 6 p) ((G.2 (N.1 2 0)).1 7 p) ((G.2 (N.1 2 0)).2 6 p) := rfl
  rw [e1] at H24
  have t2 := nTellM_ne N ((G.2 (N.1 2 0)).1 0 0) p ((G.2 (N.1 2 0)).1 6 p) ((G.2 (N.1 2 0)).1 7 p) ((G.2 (N.1 2 0)).2 6 p) (f := 2) 0 (by omega) (by omega)
  have t4 := nTellM_ne N ((G.2 (N.1 2 0)).1 0 0) p ((G.2 (N.1 2 0)).1 6 p) ((G.2 (N.1 2 0)).1 7 p) ((G.2 (N.1 2 0)).2 6 p) (f := 4) 0 (by omega) (by omega)
  have t8 := nTellM_ne N ((G.2 (N.1 2 0)).1 0 0) p ((G.2 (N.1 2 0)).1 6 p) ((G.2 (N.1 2 0)).1 7 p) ((G.2 (N.1 2 0)).2 6 p) (f := 8) 0 (by omega) (by omega)
  have hD : ∀ T, T = nTellM N ((G.2 (N.1 2 0)).1 0 0) p ((G.2 (N.1 2 0)).1 6 p) ((G.2 (N.1 2 0)).1 7 p) ((G.2 (N.1 2 0)).2 6 p) → nDel N (G.2 (N.1 2 0)) p = if (G.2 (N.1 2 0)).1 8 p ≠ 0 ∧ prim N (G.2 (N.1 2 0)) = true then nApply T p ((G.2 (N.1 2 0)).1 7 p) ((G.2 (N.1 2 0)).2 6 p) else T := fun T e => by rw [e]; rfl
  have hD := hD _ rfl
  generalize hT : nTellM N ((G.2 (N.1 2 0)).1 0 0) p ((G.2 (N.1 2 0)).1 6 p) ((G.2 (N.1 2 0)).1 7 p) ((G.2 (N.1 2 0)).2 6 p) = T at *
  have q5 : zI S24 (ar 5) i = nI (sg (N.1 2 0)) := by rw [mv_r H24 hi, t2, if_neg h8]
  obtain ⟨-, -, f24, -, fp⟩ := mv_pl H24 hi (by rw [t2]; exact h8) rfl
  rw [t2] at f24 fp
  obtain ⟨-, f30, f31, f32, -⟩ := fp p h1 h2
  have z8 : (nI ((G.2 (N.1 2 0)).1 8 p) = 0) ↔ (G.2 (N.1 2 0)).1 8 p = 0 := nI_eq (by omega) (by omega : 0 < 2 ^ 31)
  have q10 : zI S24 (ar 10) i = nI (N.1 4 0) := (mv_F H24 hi 4 (by omega) (by omega) (by omega) (by omega)).trans (by rw [t4])
  have zv : (nI (N.1 4 0) = nI ((G.2 (N.1 2 0)).1 0 0)) ↔ N.1 4 0 = (G.2 (N.1 2 0)).1 0 0 := nI_eq (by omega) (by omega)
  obtain ⟨w1, w2⟩ := mv_in8 H (k := 10) (by omega) (by omega) rfl hi
  refine ⟨ar 32, mq_32 H, mkk_32 H, (hc 32 (by omega) (by omega) rfl).1, ?_⟩
  rw [f32, z8]
  have kT : (¬ (may = true ∧ (G.2 (N.1 2 0)).1 8 p ≠ 0 ∧ prim N (G.2 (N.1 2 0)) = true)) → Qp S24 := fun hno => by
    refine k S24 ?_
    by_cases c : may = true
    · rw [if_pos c, hD, if_neg (fun z => hno ⟨c, z⟩)]; exact H24
    · rw [if_neg c]; exact H24
  refine ⟨fun q => kT (fun z => z.2.1 q), fun q => ⟨fun q2 => kT (fun z => ?_), fun q2 => ⟨ar 10, mq_10 H, mkk_10 H, w1, by rw [q5]; exact (hsl 24 (by omega) (by omega) rfl).1, ?_⟩⟩⟩
  · rw [if_pos z.1] at q2; exact absurd q2 (by decide)
  · rw [q5, c2, q10, f24, zv, f30, f31]
    refine ⟨fun q3 => kT (fun z => q3 (prim_num z.2.2)), fun q3 => m_apply H24 hi o7 (by rw [t8]; exact h8') (fun S34 H34 => k S34 ?_)⟩
    have hm : may = true := by
      cases may
      · exact absurd rfl q2
      · rfl
    have hpr : prim N (G.2 (N.1 2 0)) = true := by
      unfold prim
      rw [Bool.and_eq_true, decide_eq_true_iff, decide_eq_true_iff]
      exact ⟨by omega, q3.symm⟩
    rw [if_pos hm, hD, if_pos ⟨q, hpr⟩]
    exact H34
theorem m_dlv (H : zMV Z S0 ar n w sg u S (gN G i N)) (hu : u 6 i = false) (hi : i < n) (h8 : N.1 2 0 ≠ 8) {R : nT} (hR : G.2 (N.1 2 0) = R) (hok : rOk R) (hnum : 1 ≤ R.1 0 0) (h4 : N.1 4 0 < 2 ^ 30) (h6 : N.1 6 0 ≤ 100) (h7 : N.1 7 0 ≤ 100) (h10 : N.1 10 0 < 2 ^ 20) (h8' : N.1 8 0 < 2 ^ 20) (h100 : R.1 3 0 ≤ 100) (hz : ∀ p, p < 101 → R.1 3 0 < p → N.1 16 p = 0) {Qp : Int32 → zS → Prop} (k : ∀ S', zMV Z S0 ar n w sg u S' (gN G i (dlv R (100 - N.1 6 0) N)) → Qp (nI ((dlv R (100 - N.1 6 0) N).1 6 0 - N.1 6 0)) S') : w_X7_deliverAll Z (ar 0) (nI i) S Qp := by
  have hn := (mV_n H).2.2.2.1
  have a6 : zI S (ar 16) i = nI (N.1 6 0) := mv_F H hi 6 (by omega) (by omega) (fun _ => hu) (fun _ => h8)
  obtain ⟨v1, v2⟩ := mv_in8 H (k := 16) (by omega) (by omega) rfl hi
  unfold w_X7_deliverAll
  refine ⟨mV_0 H, ar 16, mq_16 H, mkk_16 H, v1, fun y6 e6 => ?_⟩
  rw [v2, a6, nI_1] at e6
  subst e6
  refine zlp3 (fun a x S' => ∃ k' N', k' ≤ 100 ∧ x = nI (101 - k') ∧ a = nI (100 - k' - N.1 6 0) ∧ N'.1 6 0 = 100 - k' ∧ N.1 6 0 ≤ 100 - k' ∧ zMV Z S0 ar n w sg u S' (gN G i N') ∧ dlv R k' N' = dlv R (100 - N.1 6 0) N ∧ N'.1 2 0 = N.1 2 0 ∧ N'.1 4 0 = N.1 4 0 ∧ N'.1 7 0 = N.1 7 0 ∧ (∀ p, N'.1 16 p = N.1 16 p) ∧ N'.1 10 0 + k' < 2 ^ 21 ∧ N'.1 8 0 + k' < 2 ^ 21) (fun _ x _ => 102 - x.toNatClampNeg) (fun rec a x S' hI hrec => ?_) _ _ S ⟨100 - N.1 6 0, N, by omega, by congr 1; omega, by rw [show 100 - (100 - N.1 6 0) - N.1 6 0 = 0 by omega]; rfl, by omega, by omega, H, rfl, rfl, rfl, rfl, fun _ => rfl, by omega, by omega⟩
  obtain ⟨k', N', hk, rfl, rfl, g6, gl, H', hd, g2, g4, g7, g16, g10, g8⟩ := hI
  obtain ⟨s1, s5, s24, s28, sp⟩ := mv_pl (R := R) H' hi (by rw [g2]; exact h8) (by rw [g2]; exact hR)
  rw [g2] at s1 s5 s24 s28 sp
  obtain ⟨w1, w2⟩ := mv_in8 H (k := 5) (by omega) (by omega) rfl hi
  have hsl := fun k (h3 : 3 ≤ k) (hk : k < 36) (hm : mln k = 16) => mv_ins H (k := k) (j := sg (N.1 2 0)) h3 hk hm (by omega) s1
  have hle : (nI (R.1 3 0) < nI (101 - k')) ↔ R.1 3 0 < 101 - k' := nI_ltI (by omega) (by omega)
  have hstop : (k' ≠ 0 → ¬ (N'.1 16 (101 - k') ≠ 0 ∧ (R.1 8 (101 - k') = 0 ∨ 101 - k' ≤ N'.1 7 0))) → Qp (nI (100 - k' - N.1 6 0)) S' := fun hno => by
    have e : dlv R k' N' = N' := by
      cases k' with
      | zero => rfl
      | succ j =>
        have hno := hno (by omega)
        rw [show 101 - (j + 1) = 100 - j by omega] at hno
        unfold dlv
        rw [if_neg hno]
    rw [← hd, e] at k
    rw [← g6]
    exact k S' H'
  unfold wb_X7_deliverAll_11
  refine ⟨mV_0 H, ar 28, mq_28 H, ar 5, mq_5 H, mkk_5 H, w1, mkk_28 H, by rw [w2, s5]; exact (hsl 28 (by omega) (by omega) rfl).1, ?_⟩
  rw [w2, s5, (hsl 28 (by omega) (by omega) rfl).2, s28, hle]
  refine ⟨fun q => hstop (fun hk0 z => z.1 (by rw [g16]; exact hz _ (by omega) q)), fun q => ?_⟩
  have hp100 : 101 - k' ≤ R.1 3 0 := by omega
  refine m_has (R := R) H' hi (by rw [g2]; exact h8) (by rw [g2]; exact hR) (by omega) hp100 h100 ⟨fun q2 => hstop (fun _ z => ?_), fun q2 => ?_⟩
  · rw [if_pos z.1] at q2; exact absurd q2 (by decide)
  · have h16 : N'.1 16 (101 - k') ≠ 0 := fun c => by rw [if_neg (fun z => z c)] at q2; exact q2 rfl
    obtain ⟨-, -, -, p32, -⟩ := sp (101 - k') (by omega) hp100
    obtain ⟨o6, o7, o8⟩ := hok.2 (101 - k') (by omega)
    have hc := fun k (h3 : 3 ≤ k) (hk : k < 36) (hm : mln k = 1616) => mv_ins H (k := k) (j := 101 * sg (N.1 2 0) + (101 - k')) h3 hk hm (by omega) (by omega)
    have z8 : (nI (R.1 8 (101 - k')) = 0) ↔ R.1 8 (101 - k') = 0 := nI_eq (by omega) (by omega : 0 < 2 ^ 31)
    have e7 : zI S' (ar 17) i = nI (N'.1 7 0) := mv_F H' hi 7 (by omega) (by omega) (by omega) (fun _ => by rw [g2]; exact h8)
    have hl7 : (nI (N'.1 7 0) < nI (101 - k')) ↔ N'.1 7 0 < 101 - k' := nI_ltI (by omega) (by omega)
    obtain ⟨x1, x2⟩ := mv_in8 H (k := 17) (by omega) (by omega) rfl hi
    have hgo : (R.1 8 (101 - k') = 0 ∨ 101 - k' ≤ N'.1 7 0) → wJ_X7_deliverAll_63 Z Qp (fun v42 S41 => Qp v42 S41) rec (ar 0) (nI i) (nI (100 - k' - N.1 6 0)) (nI (101 - k')) S' := fun ho => by
      obtain ⟨j, rfl⟩ : ∃ j, k' = j + 1 := ⟨k' - 1, by omega⟩
      have e3 : 101 - (j + 1) = 100 - j := by omega
      rw [e3] at h16 ho hp100 ⊢
      have hb2 : N'.1 2 0 ≠ 8 := by rw [g2]; exact h8
      unfold wJ_X7_deliverAll_63
      have Hh := ms_hide H' (u' := uOn u i) (fun j h => by rw [uOn_5] at h; exact h) (fun j h => uOn_f h)
      refine ⟨mV_0 H, m_del (R := R) (may := true) Hh (uOn_t u i) hi hb2 (by rw [g2]; exact hR) hok hnum (by omega) (by omega) (by omega) (by omega) hp100 h100 (fun S25 H25 => ⟨ar 16, mq_16 H, mkk_16 H, v1, fun S30 e30 y31 e31 y32 e32 => ?_⟩)⟩
      rw [if_pos rfl] at H25
      have H30 := ms_6 H25 (v := 100 - j)
      rw [v2] at e30
      have e6' : nsI (nDel N' R (100 - j)) 6 0 (100 - j) = nDel N' R (100 - j) := by
        have := nsI_self (nDel N' R (100 - j)) 6 0
        rw [nDel_6] at this
        exact this
      rw [← e30, uOff_on u i hu, e6'] at H30
      rw [nI_1] at e31 e32
      subst e31 e32
      refine hrec _ _ _ ⟨j, nDel N' R (100 - j), by omega, by congr 1; omega, by congr 1; omega, nDel_6 _ _ _, by omega, H30, ?_, ?_, ?_, ?_, fun p => ?_, ?_, ?_⟩ ?_
      · rw [← hd]
        show _ = (if N'.1 16 (100 - j) ≠ 0 ∧ (R.1 8 (100 - j) = 0 ∨ 100 - j ≤ N'.1 7 0) then dlv R j (nDel N' R (100 - j)) else N')
        rw [if_pos ⟨h16, ho⟩]
      · rw [nDel_ne _ _ _ _ (by omega) (by omega) (by omega) (by omega)]; exact g2
      · rw [nDel_ne _ _ _ _ (by omega) (by omega) (by omega) (by omega)]; exact g4
      · rw [nDel_ne _ _ _ _ (by omega) (by omega) (by omega) (by omega)]; exact g7
      · rw [nDel_ne _ _ _ _ (by omega) (by omega) (by omega) (by omega)]; exact g16 p
      · rw [nDel_10]; omega
      · have := nDel_8 N' R (100 - j); omega
      · rw [nI_clamp (by omega), nI_clamp (by omega)]; omega
    refine ⟨ar 32, mq_32 H, ?_⟩
    rw [s5]
    refine m_place ⟨mkk_32 H, (hc 32 (by omega) (by omega) rfl).1, ?_⟩
    rw [(hc 32 (by omega) (by omega) rfl).2, p32, z8]
    refine ⟨fun q3 => hgo (Or.inl q3), fun q3 => ⟨ar 17, mq_17 H, mkk_17 H, x1, ?_⟩⟩
    rw [e7, hl7]
    refine ⟨fun q4 => hstop (fun _ z => ?_), fun q4 => hgo (Or.inr (by omega))⟩
    rcases z.2 with r | r
    · exact q3 r
    · omega
end
