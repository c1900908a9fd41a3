/-! the reference's small methods -/
theorem z01_b {b : Bool} : zb (if b = true then 1 else 0) := by
  cases b
  · exact Or.inl rfl
  · exact Or.inr rfl
theorem m_isIn {Z : zZ} {S : zS} {x : Int32} {i : Nat} (hi : i < 32) {Qp : Int32 → zS → Prop} (k : Qp (if bt x i = true then 1 else 0) S) : w_X7_isIn Z x (nI i) S Qp := by
  unfold w_X7_isIn
  rw [ism x hi]
  refine ⟨fun q => ?_, fun q => ?_⟩
  · rw [if_neg q] at k; exact k
  · rw [if_pos q] at k; exact k
theorem pl_nI (s p : Nat) : (101 : Int32) * nI s + nI p = nI (101 * s + p) := by
  rw [← nI_add]
  exact congrArg (· + nI p) (pk_mul 101 s)
theorem m_place {Z : zZ} {S : zS} {s p : Nat} {Qp : Int32 → zS → Prop} (k : Qp (nI (101 * s + p)) S) : w_X7_place Z (nI s) (nI p) S Qp := by
  unfold w_X7_place
  rw [pl_nI]
  exact k
section
variable {Z : zZ} {S0 S : zS} {ar : Nat → Nat} {n w : Nat} {sg : Nat → Nat} {u u' : Nat → Nat → Bool} {G : gT} {i : Nat} {N : nT} {A : Nat → Nat → Int32} {B : Nat → Nat → Int64}
theorem mv_in8 (H : zMV Z S0 ar n w sg u S G) {k j : Nat} (h3 : 3 ≤ k) (hk : k < 36) (hm : mln k = 8) (hj : j < n) : vp_in (nI j) (zN Z (ar k)) ∧ (nI j).toNatClampNeg = j := by
  have hn := (mV_n H).2.2.2.1
  rw [(mV_k H h3 hk).2.2, hm]
  exact ⟨vp_in_nI (by omega) (by omega), nI_clamp (by omega)⟩
theorem mv_ins (H : zMV Z S0 ar n w sg u S G) {k j m : Nat} (h3 : 3 ≤ k) (hk : k < 36) (hm : mln k = m) (hm2 : m < 2 ^ 20) (hj : j < m) : vp_in (nI j) (zN Z (ar k)) ∧ (nI j).toNatClampNeg = j := by
  rw [(mV_k H h3 hk).2.2, hm]
  exact ⟨vp_in_nI hj (by omega), nI_clamp (by omega)⟩
theorem m_has (H : zMV Z S0 ar n w sg u S (gN G i N)) (hi : i < n) (h8 : N.1 2 0 ≠ 8) {R : nT} (hR : G.2 (N.1 2 0) = R) {p : Nat} (h1 : 1 ≤ p) (h2 : p ≤ R.1 3 0) (h100 : R.1 3 0 ≤ 100) {Qp : Int32 → zS → Prop} (k : Qp (if N.1 16 p ≠ 0 then 1 else 0) S) : w_X7_hasPlace Z (ar 0) (nI i) (nI p) S Qp := by
  subst hR
  obtain ⟨na, nr, nh, rg⟩ := mv_n H hi
  obtain ⟨g1, -⟩ := rg h8
  have er : zI S (ar 5) i = nI (sg (N.1 2 0)) := (mv_r H hi).trans (if_neg h8)
  have hn := (mV_n H).2.2.2.1
  obtain ⟨v1, v2⟩ := mv_in8 H (k := 5) (by omega) (by omega) rfl hi
  obtain ⟨v3, v4⟩ := mv_ins H (k := 33) (j := 101 * sg (N.1 2 0) + p) (m := 1616) (by omega) (by omega) rfl (by omega) (by omega)
  unfold w_X7_hasPlace
  refine ⟨mV_0 H, ar 33, mq_33 H, ar 5, mq_5 H, mkk_5 H, v1, ?_⟩
  rw [v2, er]
  refine m_place ⟨mkk_33 H, v3, ?_⟩
  rw [v4]
  refine m_isIn (by omega) ⟨z01_b, ?_⟩
  have e : bt (zI S (ar 33) (101 * sg (N.1 2 0) + p)) i = decide (N.1 16 p ≠ 0) := nh h8 p h1 h2
  rw [e]
  by_cases c : N.1 16 p ≠ 0
  · rw [if_pos c] at k
    rw [if_pos (decide_eq_true c)]; exact k
  · rw [if_neg c] at k
    rw [if_neg (by simpa using c)]; exact k
theorem m_full (H : zMV Z S0 ar n w sg u S (gN G i N)) (hi : i < n) (h8 : N.1 2 0 ≠ 8) {R : nT} (hR : G.2 (N.1 2 0) = R) (h100 : R.1 3 0 ≤ 100) (hz : ∀ p, p < 101 → R.1 3 0 < p → N.1 16 p = 0) {Qp : Int32 → zS → Prop} (k : Qp (nI (fulf N 100)) S) : w_X7_full Z (ar 0) (nI i) S Qp := by
  subst hR
  obtain ⟨na, nr, nh, rg⟩ := mv_n H hi
  obtain ⟨g1, -, -, g3, -⟩ := rg h8
  have er : zI S (ar 5) i = nI (sg (N.1 2 0)) := (mv_r H hi).trans (if_neg h8)
  have ep : zI S (ar 28) (sg (N.1 2 0)) = nI ((G.2 (N.1 2 0)).1 3 0) := g3
  obtain ⟨v1, v2⟩ := mv_in8 H (k := 5) (by omega) (by omega) rfl hi
  obtain ⟨v3, v4⟩ := mv_ins H (k := 28) (j := sg (N.1 2 0)) (m := 16) (by omega) (by omega) rfl (by omega) g1
  unfold w_X7_full
  refine zlp2 (fun x S' => S' = S ∧ ∃ k, k ≤ 100 ∧ 100 - k ≤ (G.2 (N.1 2 0)).1 3 0 ∧ x = nI (100 - k) ∧ fulf N k = fulf N 100) (fun x _ => 101 - x.toNatClampNeg) (fun rec x S' hI hrec => ?_) _ S ⟨rfl, 100, by omega, by omega, rfl, rfl⟩
  obtain ⟨rfl, k', hk, hl, rfl, hf⟩ := hI
  unfold wb_X7_full_2
  have hle : (nI ((G.2 (N.1 2 0)).1 3 0) ≤ nI (100 - k')) ↔ (G.2 (N.1 2 0)).1 3 0 ≤ 100 - k' := nI_leI (by omega) (by omega)
  refine ⟨mV_0 H, ar 28, mq_28 H, ar 5, mq_5 H, mkk_5 H, v1, mkk_28 H, by rw [v2, er]; exact v3, ?_⟩
  rw [v2, er, v4, ep, hle]
  refine ⟨fun q => ?_, fun q => ?_⟩
  · have e : fulf N k' = 100 - k' := by
      cases k' with
      | zero => rfl
      | succ j =>
        unfold fulf
        rw [if_pos (hz (100 - j) (by omega) (by omega))]
        omega
    rw [← hf, e] at k
    exact k
  · obtain ⟨j, rfl⟩ : ∃ j, k' = j + 1 := ⟨k' - 1, by omega⟩
    have e1 : nI (100 - (j + 1)) + 1 = nI (100 - j) := by rw [nI_1]; congr 1; omega
    rw [e1]
    refine m_has H hi h8 rfl (by omega) (by omega) h100 ⟨fun q2 => ?_, fun q2 y e => ?_⟩
    · have h0 : N.1 16 (100 - j) = 0 := by
        by_cases c : N.1 16 (100 - j) ≠ 0
        · rw [if_pos c] at q2; exact absurd q2 (by decide)
        · simpa using c
      have : fulf N (j + 1) = 99 - j := by unfold fulf; rw [if_pos h0]
      rw [← hf, this] at k
      rw [show 100 - (j + 1) = 99 - j by omega]
      exact k
    · subst e
      have h0 : N.1 16 (100 - j) ≠ 0 := fun c => by rw [if_neg (fun z => z c)] at q2; exact q2 rfl
      have : fulf N (j + 1) = fulf N j := by
        show (if N.1 16 (100 - j) = 0 then 99 - j else fulf N j) = _
        rw [if_neg h0]
      refine hrec _ _ ⟨rfl, j, by omega, by omega, rfl, this.symm.trans hf⟩ ?_
      rw [nI_clamp (by omega), nI_clamp (by omega)]
      omega
theorem m_holds (H : zMV Z S0 ar n w sg u S G) (hi : i < n) (hb : (G.1 i).1 0 0 < 2) (hup : (G.1 i).1 0 0 = 0 → (G.1 i).1 2 0 = 8) (hno : (G.2 8).1 2 0 = 0) {Qp : Int32 → zS → Prop} (k : Qp (if (G.2 ((G.1 i).1 2 0)).1 2 0 = i + 1 then 1 else 0) S) : w_X7_holds Z (ar 0) (nI i) S Qp := by
  have H' := mn_0 H (i := i)
  obtain ⟨na, nr, nh, rg⟩ := mv_n H' hi
  have hn := (mV_n H).2.2.2.1
  have e0 : zI S (ar 3) i = nI ((G.1 i).1 0 0) := mv_F H' hi 0 (by omega) (by omega) (by omega) (by omega)
  have er : zI S (ar 5) i = if (G.1 i).1 2 0 = 8 then -1 else nI (sg ((G.1 i).1 2 0)) := mv_r H' hi
  have z0 : (nI ((G.1 i).1 0 0) = 0) ↔ (G.1 i).1 0 0 = 0 := nI_eq (by omega) (by omega : 0 < 2 ^ 31)
  obtain ⟨v1, v2⟩ := mv_in8 H (k := 3) (by omega) (by omega) rfl hi
  obtain ⟨v3, -⟩ := mv_in8 H (k := 5) (by omega) (by omega) rfl hi
  have kF : (G.2 ((G.1 i).1 2 0)).1 2 0 ≠ i + 1 → Qp 0 S := fun h => by rw [if_neg h] at k; exact k
  have kT : (G.2 ((G.1 i).1 2 0)).1 2 0 = i + 1 → Qp 1 S := fun h => by rw [if_pos h] at k; exact k
  unfold w_X7_holds
  refine ⟨mV_0 H, ar 3, mq_3 H, mkk_3 H, v1, ?_⟩
  rw [v2, e0, z0]
  refine ⟨fun q => kF ?_, fun q => ⟨ar 5, mq_5 H, mkk_5 H, v3, ?_⟩⟩
  · rw [hup q, hno]; omega
  · rw [er]
    by_cases h8 : (G.1 i).1 2 0 = 8
    · rw [if_pos h8]
      exact ⟨fun _ => kF (by rw [h8, hno]; omega), fun z => absurd rfl z⟩
    · obtain ⟨g1, -, -, -, ⟨lo, tk, b1, b2, b3, b4, b5, b6⟩, -⟩ := rg h8
      rw [gN_self] at b6
      have b1 : zI S (ar 26) (sg ((G.1 i).1 2 0)) = nI lo := b1
      have b3 : zI S (ar 27) (sg ((G.1 i).1 2 0)) = nI tk := b3
      have hne : ¬ nI (sg ((G.1 i).1 2 0)) = -1 := fun e => nI_pos (n := sg ((G.1 i).1 2 0)) (by omega) (by rw [e]; decide)
      obtain ⟨v5, v6⟩ := mv_ins H (k := 26) (j := sg ((G.1 i).1 2 0)) (m := 16) (by omega) (by omega) rfl (by omega) g1
      obtain ⟨v7, -⟩ := mv_ins H (k := 27) (j := sg ((G.1 i).1 2 0)) (m := 16) (by omega) (by omega) rfl (by omega) g1
      have zl : (nI lo = 0) ↔ lo = 0 := nI_eq (by omega) (by omega : 0 < 2 ^ 31)
      have zt : (nI tk = nI i) ↔ tk = i := nI_eq (by omega) (by omega)
      rw [if_neg h8]
      refine ⟨fun z => absurd z hne, fun _ => ⟨ar 26, mq_26 H, mkk_26 H, v5, ?_⟩⟩
      rw [v6, b1, zl]
      refine ⟨fun q2 => kF ?_, fun q2 => ⟨ar 27, mq_27 H, mkk_27 H, v7, ?_⟩⟩
      rotate_left
      rw [b3, zt]
      refine ⟨fun q3 => kF ?_, fun q3 => kT ?_⟩
      rotate_left 2
      · rw [b6, if_neg (fun z => q2 z.1)]; omega
      · rw [b6]
        split
        · omega
        · omega
      · rw [b6, if_pos ⟨q2, by rw [q3]⟩, q3]
/-- the log -/
theorem m_tell (H : zMV Z S0 ar n w sg u S (gN G i N)) (hi : i < n) (hB : N.1 10 0 < 2 ^ 30) {p1 p2 p3 p4 p5 p6 : Int64} {Qp : zS → Prop} (k : ∀ S', zMV Z S0 ar n w sg u S' (gN G i (nTell N p1 p2 p3 p4 p5 p6)) → Qp S') : w_X7_tell Z (ar 0) (nI i) p1 p2 p3 p4 p5 p6 S Qp := by
  have hn := (mV_n H).2.2.2.1
  have e0 : zI S (ar 18) i = nI (N.1 10 0) := mv_F H hi 10 (by omega) (by omega) (by omega) (by omega)
  obtain ⟨v1, v2⟩ := mv_in8 H (k := 18) (by omega) (by omega) rfl hi
  unfold w_X7_tell
  refine ⟨mV_0 H, ar 18, mq_18 H, mkk_18 H, v1, fun y6 e6 => ?_⟩
  rw [v2, e0] at e6
  have hq : N.1 10 0 % 100 < 100 := Nat.mod_lt _ (by omega)
  have hy : y6 = nI (600 * i + N.1 10 0 % 100 * 6) := by
    rw [e6]
    have a1 : nI (N.1 10 0) - nI (N.1 10 0) / 100 * 100 = nI (N.1 10 0 % 100) := pk_rem (d := 100) (by omega) (by omega) (by omega)
    have a2 : (100 : Int32) * nI i = nI (100 * i) := pk_mul 100 i
    rw [a1, a2, nI_add]
    have a3 : (6 : Int32) * nI (100 * i + N.1 10 0 % 100) = nI (6 * (100 * i + N.1 10 0 % 100)) := pk_mul 6 _
    rw [a3]
    congr 1
    omega
  subst hy
  generalize hqq : N.1 10 0 % 100 = q at hq
  have hv : ∀ x, x < 6 → vp_in (nI (600 * i + q * 6 + x)) (zN Z (ar 23)) ∧ (nI (600 * i + q * 6 + x)).toNatClampNeg = 600 * i + (q * 6 + x) := fun x hx => by
    obtain ⟨a, b⟩ := mv_ins H (k := 23) (j := 600 * i + q * 6 + x) (m := 4800) (by omega) (by omega) rfl (by omega) (by omega)
    exact ⟨a, b.trans (by omega)⟩
  have a1 : ∀ x : Nat, nI (600 * i + q * 6) + nI x = nI (600 * i + q * 6 + x) := fun x => nI_add _ _
  refine ⟨ar 23, mq_23 H, mkk_23 H, (hv 0 (by omega)).1, fun S11 e11 => ⟨a1 1 ▸ (hv 1 (by omega)).1, fun S13 e13 => ⟨a1 2 ▸ (hv 2 (by omega)).1, fun S15 e15 => ⟨a1 3 ▸ (hv 3 (by omega)).1, fun S17 e17 => ⟨a1 4 ▸ (hv 4 (by omega)).1, fun S19 e19 => ⟨a1 5 ▸ (hv 5 (by omega)).1, fun S21 e21 S22 e22 => ?_⟩⟩⟩⟩⟩⟩
  have f11 : S11 = zsJ S (ar 23) (600 * i + (q * 6)) p1 := by rw [e11]; exact congrArg (fun z => zsJ S (ar 23) z p1) (hv 0 (by omega)).2
  have f13 : S13 = zsJ S11 (ar 23) (600 * i + (q * 6 + 1)) p2 := by rw [e13]; exact congrArg (fun z => zsJ S11 (ar 23) z p2) ((hv 1 (by omega)).2 ▸ congrArg _ (a1 1))
  have f15 : S15 = zsJ S13 (ar 23) (600 * i + (q * 6 + 2)) p3 := by rw [e15]; exact congrArg (fun z => zsJ S13 (ar 23) z p3) ((hv 2 (by omega)).2 ▸ congrArg _ (a1 2))
  have f17 : S17 = zsJ S15 (ar 23) (600 * i + (q * 6 + 3)) p4 := by rw [e17]; exact congrArg (fun z => zsJ S15 (ar 23) z p4) ((hv 3 (by omega)).2 ▸ congrArg _ (a1 3))
  have f19 : S19 = zsJ S17 (ar 23) (600 * i + (q * 6 + 4)) p5 := by rw [e19]; exact congrArg (fun z => zsJ S17 (ar 23) z p5) ((hv 4 (by omega)).2 ▸ congrArg _ (a1 4))
  have f21 : S21 = zsJ S19 (ar 23) (600 * i + (q * 6 + 5)) p6 := by rw [e21]; exact congrArg (fun z => zsJ S19 (ar 23) z p6) ((hv 5 (by omega)).2 ▸ congrArg _ (a1 5))
  have H11 := ms_J H 2 (q * 6) 23 (600 * i + (q * 6)) p1 (by omega)
  rw [← f11] at H11
  have H13 := ms_J H11 2 (q * 6 + 1) 23 (600 * i + (q * 6 + 1)) p2 (by omega)
  rw [← f13] at H13
  have H15 := ms_J H13 2 (q * 6 + 2) 23 (600 * i + (q * 6 + 2)) p3 (by omega)
  rw [← f15] at H15
  have H17 := ms_J H15 2 (q * 6 + 3) 23 (600 * i + (q * 6 + 3)) p4 (by omega)
  rw [← f17] at H17
  have H19 := ms_J H17 2 (q * 6 + 4) 23 (600 * i + (q * 6 + 4)) p5 (by omega)
  rw [← f19] at H19
  have H21 := ms_J H19 2 (q * 6 + 5) 23 (600 * i + (q * 6 + 5)) p6 (by omega)
  rw [← f21] at H21
  have H22 := ms_F H21 10 (by omega) (by omega) (v := N.1 10 0 + 1) (by omega)
  have e23 : zI S21 (ar 18) i = nI (N.1 10 0) := mv_F H21 hi 10 (by omega) (by omega) (by omega) (by omega)
  rw [v2, e23, nI_1] at e22
  have e22' : S22 = zsI S21 (ar (mA 10)) i (nI (N.1 10 0 + 1)) := e22
  rw [← e22'] at H22
  refine k S22 ?_
  unfold nTell
  rw [hqq]
  exact H22
theorem m_apply (H : zMV Z S0 ar n w sg u S (gN G i N)) (hi : i < n) {p key : Nat} {v : Int64} (hk : key < 16) (hB : N.1 8 0 < 2 ^ 30) {Qp : zS → Prop} (k : ∀ S', zMV Z S0 ar n w sg u S' (gN G i (nApply N p key v)) → Qp S') : w_X7_apply Z (ar 0) (nI i) (nI p) (nI key) v S Qp := by
  have hn := (mV_n H).2.2.2.1
  have ec : (16 : Int32) * nI i + nI key = nI (16 * i + key) := by
    rw [← nI_add]
    exact congrArg (· + nI key) (pk_mul 16 i)
  obtain ⟨v1, v2⟩ := mv_ins H (k := 7) (j := 16 * i + key) (m := 128) (by omega) (by omega) rfl (by omega) (by omega)
  obtain ⟨v3, v4⟩ := mv_in8 H (k := 8) (by omega) (by omega) rfl hi
  obtain ⟨v5, -⟩ := mv_in8 H (k := 9) (by omega) (by omega) rfl hi
  obtain ⟨v6, -⟩ := mv_in8 H (k := 22) (by omega) (by omega) rfl hi
  unfold w_X7_apply
  rw [ec]
  refine ⟨mV_0 H, ar 7, mq_7 H, mkk_7 H, v1, fun S6 e6 => ⟨ar 8, mq_8 H, mkk_8 H, v3, fun S11 e11 => ⟨ar 9, mq_9 H, mkk_9 H, v5, fun S16 e16 => ⟨ar 22, mq_22 H, mkk_22 H, v6, fun S21 e21 => ?_⟩⟩⟩⟩
  rw [v2] at e6
  rw [v4] at e11 e16 e21
  have H6 := ms_J H 1 key 7 (16 * i + key) v (by omega)
  rw [← e6] at H6
  have a8 : zI S6 (ar 8) i = nI (N.1 8 0) := mv_F H6 hi 8 (by omega) (by omega) (by omega) (by omega)
  rw [a8, nI_1] at e11
  have H11 := ms_F H6 8 (by omega) (by omega) (v := N.1 8 0 + 1) (by omega)
  have e11' : S11 = zsI S6 (ar (mA 8)) i (nI (N.1 8 0 + 1)) := e11
  rw [← e11'] at H11
  have a9 : zJ S11 (ar 9) i = N.2 0 0 := (mv_n H11 hi).1.2.1.1.trans (by rw [n2_sI]; exact n2_ne (f := 1) (f' := 0) N key v 0 (by omega))
  have ek : (nI key).toInt64 * 17 = lN (key * 17) := by
    rw [nI_l (by omega)]
    have : ∀ key, key < 16 → lN key * 17 = lN (key * 17) := by decide +kernel
    exact this key hk
  rw [a9, ek] at e16
  have H16 := ms_J H11 0 0 9 i (N.2 0 0 * 31 + lN (key * 17) + v) (by omega)
  rw [← e16] at H16
  have H21 := ms_F H16 9 (by omega) (by omega) (v := p) (by omega)
  have e21' : S21 = zsI S16 (ar (mA 9)) i (nI p) := e21
  rw [← e21'] at H21
  exact k S21 H21
end
