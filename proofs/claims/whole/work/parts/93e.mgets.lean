/-! a place comes to a node, to nodes -/
section
variable {Z : zZ} {S0 S : zS} {ar : Nat → Nat} {n w : Nat} {sg : Nat → Nat} {u u' : Nat → Nat → Bool} {G : gT} {i : Nat} {N : nT} {A : Nat → Nat → Int32} {B : Nat → Nat → Int64}
theorem bt_set (x : Int32) {i j : Nat} (hi : i < 32) (hj : j < 32) : bt (x ||| (1 <<< (nI i &&& 31))) j = (bt x j || decide (j = i)) := by
  rw [b_or, bt_one i hi hj]
theorem ms_H (H : zMV Z S0 ar n w sg u S (gN G i N)) (hi : i < n) (h8 : N.1 2 0 ≠ 8) (hl : ∀ r, (G.2 r).1 3 0 ≤ 100) {p : Nat} (h1 : 1 ≤ p) (h2 : p ≤ 100) : zMV Z S0 ar n w sg u (zsI S (ar 33) (101 * sg (N.1 2 0) + p) (zI S (ar 33) (101 * sg (N.1 2 0) + p) ||| (1 <<< (nI i &&& 31)))) (gN G i (nsI N 16 p 1)) := by
  have hn := (mV_n H).2.2.2.1
  refine zMV_I H.1 (by omega) ?_
  have e0 : ∀ k, k ≠ 33 → zu (mI S ar) 33 (101 * sg (N.1 2 0) + p) (zI S (ar 33) (101 * sg (N.1 2 0) + p) ||| (1 <<< (nI i &&& 31))) k = mI S ar k := fun k hk => zu_ne _ _ _ _ _ hk
  have en : ∀ f x, f ≠ 16 → (nsI N 16 p 1).1 f x = N.1 f x := fun f x hf => n1_ne _ _ _ _ hf
  have eg : ∀ j f x, f ≠ 16 → ((gN G i (nsI N 16 p 1)).1 j).1 f x = ((gN G i N).1 j).1 f x := fun j f x hf => by
    rw [g1_N, g1_N]
    split
    · exact en f x hf
    · rfl
  have ej : ∀ j, ((gN G i (nsI N 16 p 1)).1 j).2 = ((gN G i N).1 j).2 := fun j => by
    rw [g1_N, g1_N]
    split
    · rfl
    · rfl
  obtain ⟨c1, c2, c3⟩ := H.2
  refine ⟨by rw [e0 0 (by omega)]; exact c1, fun j hj => ⟨?_, ?_, ?_, ?_⟩, fun a b ha hb => by rw [eg a 2 0 (by omega), eg b 2 0 (by omega)]; exact c3 a b ha hb⟩
  · obtain ⟨a1, a2, a3, a4⟩ := (c2 j hj).1
    unfold mNa
    rw [ej j, eg j 11 0 (by omega)]
    refine ⟨fun f hf hf2 hf6 hf7 => ?_, a2, fun k hk h12 => ?_, fun q hq => ?_⟩
    · have := mA_rg f hf hf2
      rw [e0 _ (by omega), eg j f 0 (by omega)]; exact a1 f hf hf2 hf6 (fun z => by have := hf7 z; rw [eg j 2 0 (by omega)] at this; exact this)
    · rw [e0 13 (by omega), e0 15 (by omega), eg j 12 k (by omega), eg j 13 k (by omega)]; exact a3 k hk h12
    · rw [e0 19 (by omega), e0 20 (by omega), eg j 14 q (by omega), eg j 15 q (by omega)]; exact a4 q hq
  · unfold mNr
    rw [e0 5 (by omega), eg j 2 0 (by omega)]; exact (c2 j hj).2.1
  · unfold mNh
    rw [eg j 2 0 (by omega)]
    intro hj8 q q1 q2
    have z := (c2 j hj).2.2.1 hj8 q q1 q2
    have q100 : q ≤ 100 := Nat.le_trans q2 (hl _)
    rw [zu_at]
    by_cases e : 101 * sg (((gN G i N).1 j).1 2 0) + q = 101 * sg (N.1 2 0) + p
    · have eq : q = p := by omega
      have es : sg (((gN G i N).1 j).1 2 0) = sg (N.1 2 0) := by omega
      rw [if_pos e, bt_set _ (by omega) (by omega)]
      have z' : bt (zI S (ar 33) (101 * sg (N.1 2 0) + p)) j = decide (((gN G i N).1 j).1 16 q ≠ 0) := by rw [← e]; exact z
      rw [z']
      by_cases eji : j = i
      · subst eji
        rw [g1_Ns, g1_Ns, eq, n1_eq]
        simp
      · rw [g1_Nn _ _ eji, g1_Nn _ _ eji]
        simp [eji]
    · rw [if_neg e]
      have e16 : ((gN G i (nsI N 16 p 1)).1 j).1 16 q = ((gN G i N).1 j).1 16 q := by
        rw [g1_N, g1_N]
        split
        · rename_i eji
          rw [n1_sI, if_neg]
          intro zz
          refine e ?_
          rw [eji, g1_Ns, zz.2]
        · rfl
      rw [e16]
      exact z
  · rw [eg j 2 0 (by omega)]
    intro hj8
    obtain ⟨a1, a2, a3, a4, ⟨lo, tk, b1, b2, b3, b4, b5, b6⟩, a6, a7⟩ := (c2 j hj).2.2.2 hj8
    unfold mRg
    rw [e0 24 (by omega), e0 25 (by omega), e0 28 (by omega), e0 26 (by omega), e0 27 (by omega), e0 29 (by omega), e0 30 (by omega), e0 32 (by omega), e0 34 (by omega), e0 35 (by omega)]
    exact ⟨a1, a2, a3, a4, ⟨lo, tk, b1, b2, b3, b4, b5, by rw [eg tk 2 0 (by omega)]; exact b6⟩, a6, fun m hm hu => a7 m hm (by rw [eg m 2 0 (by omega)] at hu; exact hu)⟩
theorem m_gets (H : zMV Z S0 ar n w sg u S (gN G i N)) (hi : i < n) (h8 : N.1 2 0 ≠ 8) {R : nT} (hR : G.2 (N.1 2 0) = R) (hok : rOk R) (hnum : 1 ≤ R.1 0 0) (h4 : N.1 4 0 < 2 ^ 30) (hl : ∀ r, (G.2 r).1 3 0 ≤ 100) {p : Nat} (h1 : 1 ≤ p) (h2 : p ≤ R.1 3 0) {Qp : zS → Prop} (k : ∀ S', zMV Z S0 ar n w sg u S' (gN G i (nRecv N R p)) → Qp S') : w_X7_gets Z (ar 0) (nI i) (nI p) S Qp := by
  subst hR
  have hn := (mV_n H).2.2.2.1
  have h100 := hl (N.1 2 0)
  obtain ⟨g1, g5, g24, g28, gp⟩ := mv_pl H hi h8 rfl
  obtain ⟨p29, p30, p31, p32, p34⟩ := gp p h1 h2
  obtain ⟨o1, o2⟩ := hok
  obtain ⟨o6, o7, o8⟩ := o2 p (by omega)
  obtain ⟨v1, v2⟩ := mv_in8 H (k := 5) (by omega) (by omega) rfl hi
  obtain ⟨w1, -⟩ := mv_in8 H (k := 10) (by omega) (by omega) rfl hi
  have hc := fun k (h3 : 3 ≤ k) (hk : k < 36) (hm : mln k = 1616) => mv_ins H (k := k) (j := 101 * sg (N.1 2 0) + p) h3 hk hm (by omega) (by omega)
  have hsl := fun k (h3 : 3 ≤ k) (hk : k < 36) (hm : mln k = 16) => mv_ins H (k := k) (j := sg (N.1 2 0)) h3 hk hm (by omega) g1
  have hkp := fun k (h3 : 3 ≤ k) (hk : k < 36) (hm : mln k = 808) => mv_ins H (k := k) (j := 101 * i + p) h3 hk hm (by omega) (by omega)
  have c1 := (hc 33 (by omega) (by omega) rfl).2
  have c2 := (hsl 24 (by omega) (by omega) rfl).2
  have c3 := (hkp 19 (by omega) (by omega) rfl).2
  unfold w_X7_gets
  refine ⟨mV_0 H, ar 5, mq_5 H, mkk_5 H, v1, ?_⟩
  rw [v2, g5]
  refine m_place ⟨ar 33, mq_33 H, mkk_33 H, (hc 33 (by omega) (by omega) rfl).1, fun S12 e12 => ⟨ar 32, mq_32 H, mkk_32 H, (hc 32 (by omega) (by omega) rfl).1, ?_⟩⟩
  rw [c1] at e12
  have H12 := ms_H H hi h8 hl h1 (by omega)
  rw [← e12] at H12
  have t2 : (nsI N 16 p 1).1 2 0 = N.1 2 0 := n1_ne _ _ _ _ (by omega)
  have t4 : (nsI N 16 p 1).1 4 0 = N.1 4 0 := n1_ne _ _ _ _ (by omega)
  have q5 : zI S12 (ar 5) i = nI (sg (N.1 2 0)) := by rw [mv_r H12 hi, t2, if_neg h8]
  obtain ⟨-, -, f24, -, fp⟩ := mv_pl H12 hi (by rw [t2]; exact h8) rfl
  rw [t2] at f24 fp
  obtain ⟨-, f30, f31, f32, -⟩ := fp p h1 h2
  have z8 : (nI ((G.2 (N.1 2 0)).1 8 p) = 0) ↔ (G.2 (N.1 2 0)).1 8 p = 0 := nI_eq (by omega) (by omega : 0 < 2 ^ 31)
  have q10 : zI S12 (ar 10) i = nI (N.1 4 0) := (mv_F H12 hi 4 (by omega) (by omega) (by omega) (by omega)).trans (by rw [t4])
  have zv : (nI (N.1 4 0) = nI ((G.2 (N.1 2 0)).1 0 0)) ↔ N.1 4 0 = (G.2 (N.1 2 0)).1 0 0 := nI_eq (by omega) (by omega)
  have kF : ¬ ((G.2 (N.1 2 0)).1 8 p ≠ 0 ∧ prim N (G.2 (N.1 2 0)) = true) → Qp S12 := fun hno => by
    refine k S12 ?_
    unfold nRecv
    rw [if_neg hno]
    exact H12
  rw [c1, f32, z8]
  refine ⟨fun q => kF (fun z => z.1 q), fun q => ⟨ar 10, mq_10 H, mkk_10 H, w1, ar 24, mq_24 H, mkk_24 H, by rw [q5]; exact (hsl 24 (by omega) (by omega) rfl).1, ?_⟩⟩
  rw [q5, c2, q10, f24, zv]
  refine ⟨fun q2 => kF (fun z => q2 (prim_num z.2)), fun q2 => ?_⟩
  rw [pl_nI]
  refine ⟨ar 19, mq_19 H, mkk_19 H, (hkp 19 (by omega) (by omega) rfl).1, fun S29 e29 => ⟨ar 20, mq_20 H, ar 30, mq_30 H, mkk_30 H, (hc 30 (by omega) (by omega) rfl).1, mkk_20 H, (hkp 20 (by omega) (by omega) rfl).1, fun S38 e38 => ⟨ar 21, mq_21 H, ar 31, mq_31 H, mkk_31 H, (hc 31 (by omega) (by omega) rfl).1, mkk_21 H, (hkp 21 (by omega) (by omega) rfl).1, fun S47 e47 => k S47 ?_⟩⟩⟩
  rw [c3] at e29 e38 e47
  have hinj := H.1.1.2.2
  have r30 : zI S29 (ar 30) (101 * sg (N.1 2 0) + p) = nI ((G.2 (N.1 2 0)).1 7 p) := by
    rw [e29, zI_sI, if_neg (fun z => by have := (hinj 30 19).mp z.1; omega)]; exact f30
  rw [r30] at e38
  have r31 : zJ S38 (ar 31) (101 * sg (N.1 2 0) + p) = (G.2 (N.1 2 0)).2 6 p := by
    rw [e38, e29]; exact f31
  rw [r31] at e47
  have H47 := ms_K H12 (p := p) (by omega) 1 ((G.2 (N.1 2 0)).1 7 p) ((G.2 (N.1 2 0)).2 6 p)
  have e47' : S47 = zsJ (zsI (zsI S12 (ar 19) (101 * i + p) (nI 1)) (ar 20) (101 * i + p) (nI ((G.2 (N.1 2 0)).1 7 p))) (ar 21) (101 * i + p) ((G.2 (N.1 2 0)).2 6 p) := by rw [e47, e38, e29]; rfl
  rw [← e47'] at H47
  have hpr : prim N (G.2 (N.1 2 0)) = true := by
    unfold prim
    rw [Bool.and_eq_true, decide_eq_true_iff, decide_eq_true_iff]
    exact ⟨by omega, q2.symm⟩
  unfold nRecv
  rw [if_pos ⟨q, hpr⟩]
  exact H47
/-- two nodes' rings are told apart by their slots -/
theorem mv_rr (H : zMV Z S0 ar n w sg u S G) {j : Nat} (hi : i < n) (hj : j < n) (h8 : (G.1 i).1 2 0 ≠ 8) : (zI S (ar 5) j = zI S (ar 5) i) ↔ (G.1 j).1 2 0 = (G.1 i).1 2 0 := by
  have ei : zI S (ar 5) i = if (G.1 i).1 2 0 = 8 then -1 else nI (sg ((G.1 i).1 2 0)) := (mV_N H hi).2.1
  have ej : zI S (ar 5) j = if (G.1 j).1 2 0 = 8 then -1 else nI (sg ((G.1 j).1 2 0)) := (mV_N H hj).2.1
  have si := ((mV_N H hi).2.2.2 h8).1
  rw [ei, ej, if_neg h8]
  by_cases e : (G.1 j).1 2 0 = 8
  · rw [if_pos e]
    constructor
    · intro z
      exact absurd z (fun z => nI_pos (n := sg ((G.1 i).1 2 0)) (by omega) (by rw [← z]; decide))
    · intro z; exact absurd (z.symm.trans e) h8
  · rw [if_neg e]
    have sj := ((mV_N H hj).2.2.2 e).1
    rw [nI_eq (by omega) (by omega)]
    exact ⟨fun z => H.2.2.2 j i hj hi e h8 z, fun z => by rw [z]⟩
theorem m_comes {t l : Nat} (H : zMV Z S0 ar n w sg u S G) (h : gW n G t l) (ht : t < 2 ^ 19) (hi : i < n) (h8 : (G.1 i).1 2 0 ≠ 8) {p : Nat} (h1 : 1 ≤ p) (h2 : p ≤ (G.2 ((G.1 i).1 2 0)).1 3 0) {x : Int32} {Qp : zS → Prop} (k : ∀ S', zMV Z S0 ar n w sg u S' (gGive G (pP G i x) ((G.1 i).1 2 0) p n) → Qp S') : w_X7_comes Z (ar 0) (nI i) (nI p) x S Qp := by
  have hn := mV_n H
  unfold w_X7_comes
  have H0 : zMV Z S0 ar n w sg u S (gGive G (pP G i x) ((G.1 i).1 2 0) p 0) := by rw [gGive_0]; exact H
  refine zlp2 (fun y S' => ∃ k', k' ≤ n ∧ y = nI k' ∧ zMV Z S0 ar n w sg u S' (gGive G (pP G i x) ((G.1 i).1 2 0) p k')) (fun y _ => 9 - y.toNatClampNeg) (fun rec y S' hI hrec => ?_) _ S ⟨0, by omega, rfl, H0⟩
  obtain ⟨k', hk, rfl, H'⟩ := hI
  unfold wb_X7_comes_3
  have hle : (nI n ≤ nI k') ↔ n ≤ k' := nI_leI (by omega) (by omega)
  rw [(mV_n H').1, hle]
  refine ⟨mV_0 H, fun q => ?_, fun q => ?_⟩
  · have : k' = n := by omega
    subst this
    exact k S' H'
  · have hkk : k' < n := by omega
    have hμ : 9 - (nI (k' + 1)).toNatClampNeg < 9 - (nI k').toNatClampNeg := by rw [nI_clamp (by omega), nI_clamp (by omega)]; omega
    have eg : ∀ j f, f ≠ 16 → f ≠ 14 → f ≠ 15 → ((gGive G (pP G i x) ((G.1 i).1 2 0) p k').1 j).1 f 0 = (G.1 j).1 f 0 := fun j f a b c => gGive_ne _ _ _ _ _ _ _ a b c
    have hskip : pP G i x k' = false → ∀ y : Int32, y = nI k' + 1 → rec y S' := fun hp y e => by
      rw [nI_1] at e
      subst e
      exact hrec _ _ ⟨k' + 1, by omega, rfl, by rw [gGive_s0 G _ p hp]; exact H'⟩ hμ
    have H1 := mn_0 H' (i := k')
    have a0 : zI S' (ar 3) k' = nI ((G.1 k').1 0 0) := (mv_F H1 hkk 0 (by omega) (by omega) (by omega) (by omega)).trans (by rw [eg k' 0 (by omega) (by omega) (by omega)])
    have a1 : zI S' (ar 4) k' = nI ((G.1 k').1 1 0) := (mv_F H1 hkk 1 (by omega) (by omega) (by omega) (by omega)).trans (by rw [eg k' 1 (by omega) (by omega) (by omega)])
    have a1i : zI S' (ar 4) i = nI ((G.1 i).1 1 0) := (mv_F (mn_0 H' (i := i)) hi 1 (by omega) (by omega) (by omega) (by omega)).trans (by rw [eg i 1 (by omega) (by omega) (by omega)])
    have b0 := (h.1 k' hkk).1
    have bi := (h.1 i hi).1
    have z0 : (nI ((G.1 k').1 0 0) = 0) ↔ (G.1 k').1 0 0 = 0 := nI_eq (by omega) (by omega : 0 < 2 ^ 31)
    have z1 : (nI ((G.1 k').1 1 0) = nI ((G.1 i).1 1 0)) ↔ (G.1 k').1 1 0 = (G.1 i).1 1 0 := nI_eq (by omega) (by omega)
    have z2 : (zI S' (ar 5) k' = zI S' (ar 5) i) ↔ (G.1 k').1 2 0 = (G.1 i).1 2 0 := by
      have := mv_rr H' hi hkk (by rw [eg i 2 (by omega) (by omega) (by omega)]; exact h8)
      rw [eg k' 2 (by omega) (by omega) (by omega), eg i 2 (by omega) (by omega) (by omega)] at this
      exact this
    have zi : (nI k' = nI i) ↔ k' = i := nI_eq (by omega) (by omega)
    obtain ⟨v3, c3⟩ := mv_in8 H (k := 3) (by omega) (by omega) rfl hkk
    obtain ⟨v4, -⟩ := mv_in8 H (k := 4) (by omega) (by omega) rfl hkk
    obtain ⟨v4i, c4⟩ := mv_in8 H (k := 4) (by omega) (by omega) rfl hi
    obtain ⟨v5, -⟩ := mv_in8 H (k := 5) (by omega) (by omega) rfl hkk
    obtain ⟨v5i, -⟩ := mv_in8 H (k := 5) (by omega) (by omega) rfl hi
    rw [zi]
    refine ⟨fun q1 => hskip (by unfold pP; simp [q1]), fun q1 => ⟨ar 3, mq_3 H, mkk_3 H, v3, ?_⟩⟩
    rw [c3, a0, z0]
    refine ⟨fun q2 => hskip (by unfold pP reach; simp [q2]), fun q2 => ⟨ar 4, mq_4 H, mkk_4 H, v4, v4i, ?_⟩⟩
    rw [c4, a1, a1i, z1]
    refine ⟨fun q3 => hskip (by unfold pP reach; simp [q3]), fun q3 => ⟨ar 5, mq_5 H, mkk_5 H, v5, v5i, ?_⟩⟩
    rw [z2]
    refine ⟨fun q4 => hskip (by unfold pP reach; simp [q4]), fun q4 => m_isIn (by omega) ⟨fun q5 => hskip ?_, fun q5 => ?_⟩⟩
    · have : bt x k' = true := by
        by_cases e : bt x k' = true
        · exact e
        · rw [if_neg e] at q5; exact absurd rfl q5
      unfold pP; simp [this]
    · have q6 : bt x k' = false := z01_if.mp q5
      have hp : pP G i x k' = true := by unfold pP reach; simp [q1, q2, q3, q4, q6]
      have eG : (gGive G (pP G i x) ((G.1 i).1 2 0) p k').1 k' = G.1 k' := by
        show (if k' < k' ∧ pP G i x k' = true then _ else G.1 k') = _
        rw [if_neg (fun z => by omega)]
      rw [eG] at H1
      have htb := h.2.2.1
      have hnum := h.2.2.2.2.1.2.1 i hi h8
      refine m_gets H1 hkk (R := G.2 ((G.1 i).1 2 0)) (by rw [q4]; exact h8) (by rw [q4]; rfl) ⟨by have := htb.2 ((G.1 i).1 2 0); omega, (h.2.1 _).2.2.2⟩ hnum (by have := (htb.1 k' hkk).2.1; omega) (fun r => (h.2.1 r).1.2.2) h1 h2 (fun S'' H'' y e => ?_)
      rw [nI_1] at e
      subst e
      exact hrec _ _ ⟨k' + 1, by omega, rfl, by rw [gGive_s1 G _ p hp]; exact H''⟩ hμ
end
