/-! the reference's sets, votes, order of rings -/
theorem m_least {Z : zZ} {S : zS} {s : Nat} (hs : s < 256) (h0 : s ≠ 0) {Qp : Int32 → zS → Prop} (k : Qp (nI (ls s)) S) : w_X7_least Z (nI s) S Qp := by
  have hl : ls s < 8 := ls_lt (n := 8) hs (by omega) h0
  have hb := ls_bit hl
  unfold w_X7_least
  refine zlp2 (fun x S' => S' = S ∧ ∃ m, m ≤ ls s ∧ x = nI m) (fun x _ => 9 - x.toNatClampNeg) (fun rec x S' hI hrec => ?_) _ S ⟨rfl, 0, by omega, rfl⟩
  obtain ⟨rfl, m, hm, rfl⟩ := hI
  unfold wb_X7_least_2
  refine m_isIn (by omega) ?_
  rw [bt_nI _ (by omega)]
  refine ⟨fun q => ?_, fun q y e => ?_⟩
  · have : m = ls s := by
      by_cases e : m = ls s
      · exact e
      · rw [ls_low (s := s) (i := m) (by omega), if_neg (by decide)] at q
        exact absurd rfl q
    rw [this]; exact k
  · subst e
    have : m ≠ ls s := fun e => by rw [e, hb, if_pos rfl] at q; exact absurd q (by decide)
    refine hrec _ _ ⟨rfl, m + 1, by omega, nI_1 m⟩ ?_
    rw [nI_1, nI_clamp (by omega), nI_clamp (by omega)]
    omega
theorem m_count {Z : zZ} {S : zS} {s : Nat} {Qp : Int32 → zS → Prop} (k : Qp (nI (cnt s)) S) : w_X7_count Z (nI s) S Qp := by
  unfold w_X7_count
  refine zlp3 (fun a x S' => S' = S ∧ ∃ m, m ≤ 8 ∧ x = nI m ∧ a = nI (cntf s m)) (fun _ x _ => 9 - x.toNatClampNeg) (fun rec a x S' hI hrec => ?_) _ _ S ⟨rfl, 0, by omega, rfl, rfl⟩
  obtain ⟨rfl, m, hm, rfl, rfl⟩ := hI
  unfold wb_X7_count_4
  have hle : ((8 : Int32) ≤ nI m) ↔ 8 ≤ m := nI_leI (a := 8) (by omega) (by omega)
  rw [hle]
  refine ⟨fun q => ?_, fun q y1 e1 y2 e2 => ?_⟩
  · have : m = 8 := by omega
    subst this
    exact k
  · rw [ism0 _ (by omega), bt_nI _ (by omega), nI_add] at e1
    rw [nI_1] at e2
    subst e1 e2
    refine hrec _ _ _ ⟨rfl, m + 1, by omega, rfl, rfl⟩ ?_
    rw [nI_clamp (by omega), nI_clamp (by omega)]
    omega
section
variable {Z : zZ} {S0 S : zS} {ar : Nat → Nat} {n w : Nat} {sg : Nat → Nat} {u u' : Nat → Nat → Bool} {G : gT} {i : Nat} {N : nT} {r t l : Nat}
theorem m_together (H : zMV Z S0 ar n w sg u S G) (hi : i < n) (b : ∀ j, j < n → (G.1 j).1 0 0 < 2 ^ 30 ∧ (G.1 j).1 1 0 < 2 ^ 30) {Qp : Int32 → zS → Prop} (k : Qp (nI (upSet G n ((G.1 i).1 1 0))) S) : w_X7_together Z (ar 0) (nI i) S Qp := by
  have hn := (mV_n H).2.2.2.1
  unfold w_X7_together
  refine zlp3 (fun a x S' => S' = S ∧ ∃ k', k' ≤ n ∧ x = nI k' ∧ a = nI (mk (fun j => decide ((G.1 j).1 0 0 ≠ 0) && decide ((G.1 j).1 1 0 = (G.1 i).1 1 0)) k')) (fun _ x _ => 9 - x.toNatClampNeg) (fun rec a x S' hI hrec => ?_) _ _ S ⟨rfl, 0, by omega, rfl, rfl⟩
  obtain ⟨rfl, k', hk, rfl, rfl⟩ := hI
  unfold wb_X7_together_4
  have hle : (nI n ≤ nI k') ↔ n ≤ k' := nI_leI (by omega) (by omega)
  rw [(mV_n H).1, hle, nI_1]
  refine ⟨mV_0 H, fun q => ?_, fun q => ?_⟩
  · have : k' = n := by omega
    subst this
    exact k
  · have hkk : k' < n := by omega
    have hμ : 9 - (nI (k' + 1)).toNatClampNeg < 9 - (nI k').toNatClampNeg := by rw [nI_clamp (by omega), nI_clamp (by omega)]; omega
    obtain ⟨v3, c3⟩ := mv_in8 H (k := 3) (by omega) (by omega) rfl hkk
    obtain ⟨v4, -⟩ := mv_in8 H (k := 4) (by omega) (by omega) rfl hkk
    obtain ⟨v4i, c4⟩ := mv_in8 H (k := 4) (by omega) (by omega) rfl hi
    have a0 : zI S' (ar 3) k' = nI ((G.1 k').1 0 0) := mv_F (mn_0 H (i := k')) hkk 0 (by omega) (by omega) (by omega) (by omega)
    have a1 : zI S' (ar 4) k' = nI ((G.1 k').1 1 0) := mv_F (mn_0 H (i := k')) hkk 1 (by omega) (by omega) (by omega) (by omega)
    have a1i : zI S' (ar 4) i = nI ((G.1 i).1 1 0) := mv_F (mn_0 H (i := i)) hi 1 (by omega) (by omega) (by omega) (by omega)
    have z0 : (nI ((G.1 k').1 0 0) = 0) ↔ (G.1 k').1 0 0 = 0 := nI_eq (by have := (b k' hkk).1; omega) (by omega : 0 < 2 ^ 31)
    have z1 : (nI ((G.1 k').1 1 0) = nI ((G.1 i).1 1 0)) ↔ (G.1 k').1 1 0 = (G.1 i).1 1 0 := nI_eq (by have := (b k' hkk).2; omega) (by have := (b i hi).2; omega)
    refine ⟨ar 3, mq_3 H, mkk_3 H, v3, ?_⟩
    rw [c3, a0, z0]
    refine ⟨fun q2 y e => ?_, fun q2 => ⟨ar 4, mq_4 H, mkk_4 H, v4, v4i, ?_⟩⟩
    · subst e
      exact hrec _ _ _ ⟨rfl, k' + 1, by omega, rfl, congrArg nI (mk_s0 (by simp [q2])).symm⟩ hμ
    · rw [c4, a1, a1i, z1]
      refine ⟨fun q3 y e => ?_, fun q3 y e y2 e2 => ?_⟩
      · subst e
        exact hrec _ _ _ ⟨rfl, k' + 1, by omega, rfl, congrArg nI (mk_s0 (by simp [q3])).symm⟩ hμ
      · subst e2
        exact hrec _ _ _ ⟨rfl, k' + 1, by omega, rfl, e.trans (mk_s1 (by omega) (by simp [q2, q3]))⟩ hμ
/-- those of s whose ring has slot q -/
def slSet (G : gT) (sg : Nat → Nat) (n s q : Nat) : Nat := mk (fun j => s.testBit j && (decide ((G.1 j).1 2 0 ≠ 8) && decide (sg ((G.1 j).1 2 0) = q))) n
theorem slSet_of (H : zMV Z S0 ar n w sg u S G) {s : Nat} (hi : i < n) (hr : (G.1 i).1 2 0 = r) (hr8 : r ≠ 8) : slSet G sg n s (sg r) = ofSet G n s r := by
  unfold slSet ofSet
  refine mk_ext (fun j hj => ?_)
  by_cases e : (G.1 j).1 2 0 = r
  · rw [e]; simp [hr8]
  · by_cases e8 : (G.1 j).1 2 0 = 8
    · rw [e8]
      have : ¬ 8 = r := fun z => hr8 z.symm
      simp [this]
    · have : sg ((G.1 j).1 2 0) ≠ sg r := fun es => e ((H.2.2.2 j i hj hi e8 (by rw [hr]; exact hr8) (by rw [hr]; exact es)).trans hr)
      simp [e, this]
theorem m_of (H : zMV Z S0 ar n w sg u S G) {s q : Nat} (hq : q < 16) {Qp : Int32 → zS → Prop} (k : Qp (nI (slSet G sg n s q)) S) : w_X7_of Z (ar 0) (nI s) (nI q) S Qp := by
  have hn := (mV_n H).2.2.2.1
  unfold w_X7_of
  refine zlp3 (fun a x S' => S' = S ∧ ∃ k', k' ≤ n ∧ x = nI k' ∧ a = nI (mk (fun j => s.testBit j && (decide ((G.1 j).1 2 0 ≠ 8) && decide (sg ((G.1 j).1 2 0) = q))) k')) (fun _ x _ => 9 - x.toNatClampNeg) (fun rec a x S' hI hrec => ?_) _ _ S ⟨rfl, 0, by omega, rfl, rfl⟩
  obtain ⟨rfl, k', hk, rfl, rfl⟩ := hI
  unfold wb_X7_of_5
  have hle : (nI n ≤ nI k') ↔ n ≤ k' := nI_leI (by omega) (by omega)
  rw [(mV_n H).1, hle, nI_1]
  refine ⟨mV_0 H, fun q2 => ?_, fun q2 => ?_⟩
  · have : k' = n := by omega
    subst this
    exact k
  · have hkk : k' < n := by omega
    have hμ : 9 - (nI (k' + 1)).toNatClampNeg < 9 - (nI k').toNatClampNeg := by rw [nI_clamp (by omega), nI_clamp (by omega)]; omega
    obtain ⟨v5, c5⟩ := mv_in8 H (k := 5) (by omega) (by omega) rfl hkk
    have e5 : zI S' (ar 5) k' = if (G.1 k').1 2 0 = 8 then -1 else nI (sg ((G.1 k').1 2 0)) := (mV_N H hkk).2.1
    have zq : (zI S' (ar 5) k' = nI q) ↔ ((G.1 k').1 2 0 ≠ 8 ∧ sg ((G.1 k').1 2 0) = q) := by
      rw [e5]
      by_cases e : (G.1 k').1 2 0 = 8
      · rw [if_pos e]
        exact ⟨fun z => absurd (nI_pos (n := q) (by omega)) (fun y => y (by rw [← z]; decide)), fun z => absurd e z.1⟩
      · rw [if_neg e, nI_eq (by have := ((mV_N H hkk).2.2.2 e).1; omega) (by omega)]
        exact ⟨fun z => ⟨e, z⟩, fun z => z.2⟩
    refine m_isIn (by omega) ?_
    rw [bt_nI _ (by omega)]
    refine ⟨fun q3 y e => ?_, fun q3 => ⟨ar 5, mq_5 H, mkk_5 H, v5, ?_⟩⟩
    · subst e
      exact hrec _ _ _ ⟨rfl, k' + 1, by omega, rfl, congrArg nI (mk_s0 (by rw [z01_if.mp q3]; rfl)).symm⟩ hμ
    · have hb : s.testBit k' = true := Classical.byContradiction (fun z => by rw [if_neg z] at q3; exact q3 rfl)
      rw [c5, zq]
      refine ⟨fun q4 y e => ?_, fun q4 y e y2 e2 => ?_⟩
      · subst e
        refine hrec _ _ _ ⟨rfl, k' + 1, by omega, rfl, congrArg nI (mk_s0 ?_).symm⟩ hμ
        rw [hb, Bool.true_and]
        refine Bool.eq_false_iff.mpr (fun z => q4 ?_)
        rw [Bool.and_eq_true, decide_eq_true_iff, decide_eq_true_iff] at z
        exact z
      · subst e2
        refine hrec _ _ _ ⟨rfl, k' + 1, by omega, rfl, e.trans (mk_s1 (by omega) ?_)⟩ hμ
        rw [hb, Bool.true_and, Bool.and_eq_true, decide_eq_true_iff, decide_eq_true_iff]
        exact q4
theorem m_isWhole (H : zMV Z S0 ar n w sg u S G) (h : gW n G t l) (hi : i < n) {s : Nat} (hs : s < 2 ^ n) (his : s.testBit i = true) {Qp : Int32 → zS → Prop} (k : Qp (if whole? G n ((G.1 i).1 2 0) s = true then 1 else 0) S) : w_X7_isWhole Z (ar 0) (nI s) S Qp := by
  have hn := mV_n H
  have hs8 : s < 256 := Nat.lt_of_lt_of_le hs (Nat.pow_le_pow_right (by omega) hn.2.2.2.1)
  have hs0 : s ≠ 0 := fun e => by rw [e, Nat.zero_testBit] at his; exact Bool.noConfusion his
  have hln : ls s < n := ls_lt hs hn.2.2.2.1 hs0
  have hlb : s.testBit (ls s) = true := ls_bit (by omega)
  have hnone := h.2.2.2.1.2.2.2.1
  generalize hli : ls s = li at *
  obtain ⟨v5, c5⟩ := mv_in8 H (k := 5) (by omega) (by omega) rfl hln
  have e5 : zI S (ar 5) li = if (G.1 li).1 2 0 = 8 then -1 else nI (sg ((G.1 li).1 2 0)) := (mV_N H hln).2.1
  -- the whole ring, told of the least one's ring
  have hw : whole? G n ((G.1 i).1 2 0) s = true ↔ (G.1 li).1 2 0 ≠ 8 ∧ (G.2 ((G.1 li).1 2 0)).1 1 0 = s ∧ (∃ lo, zI S (ar 26) (sg ((G.1 li).1 2 0)) = nI lo ∧ lo = 0) ∧ ∀ j, j < n → s.testBit j = true → (G.1 j).1 2 0 = (G.1 li).1 2 0 := by
    unfold whole?
    rw [Bool.and_eq_true, Bool.and_eq_true, decide_eq_true_iff, decide_eq_true_iff, decide_eq_true_iff]
    constructor
    · rintro ⟨a1, a2, a3⟩
      have hall : ∀ j, j < n → s.testBit j = true → (G.1 j).1 2 0 = (G.1 i).1 2 0 := fun j hj hb => by
        rw [← a3] at hb
        exact ((ofSet_bit _ _ _ _ _).mp hb).2.1
      have hl := hall li hln hlb
      have h8 : (G.1 li).1 2 0 ≠ 8 := fun e => by
        rw [← hl, e, hnone.2.2] at a2
        exact a2 rfl
      rw [← hl] at a1 a2
      obtain ⟨-, -, -, -, ⟨lo, tk, b1, b2, b3, b4, b5, b6⟩, -⟩ := mv_R H hln rfl h8
      refine ⟨h8, a1, ⟨lo, b1, ?_⟩, fun j hj hb => (hall j hj hb).trans hl.symm⟩
      refine Classical.byContradiction (fun z => a2 ?_)
      rw [b6, if_neg (fun y => z y.1)]
    · rintro ⟨a1, a2, ⟨lo', c1, c2⟩, a4⟩
      have hl : (G.1 i).1 2 0 = (G.1 li).1 2 0 := a4 i hi his
      rw [hl]
      obtain ⟨-, -, -, -, ⟨lo, tk, b1, b2, b3, b4, b5, b6⟩, -⟩ := mv_R H hln rfl a1
      have b1 : zI S (ar 26) (sg ((G.1 li).1 2 0)) = nI lo := b1
      have hlo : lo = 0 := by
        rw [b1, c2] at c1
        exact (nI_eq (by omega) (by omega)).mp c1
      refine ⟨a2, ?_, ?_⟩
      · rw [a2] at b5
        rw [b6, if_pos ⟨hlo, a4 tk b4 b5⟩]; omega
      · refine Nat.eq_of_testBit_eq (fun j => ?_)
        by_cases hb : s.testBit j = true
        · have hj : j < n := Nat.lt_of_not_le (fun q => by rw [mask_hi hs q] at hb; exact Bool.noConfusion hb)
          rw [hb]
          exact (ofSet_bit _ _ _ _ _).mpr ⟨hj, a4 j hj hb, hb⟩
        · have hb' : s.testBit j = false := by simpa using hb
          rw [hb']
          exact Bool.eq_false_iff.mpr (fun z => hb ((ofSet_bit _ _ _ _ _).mp z).2.2)
  -- the loop, from what is known of the ring itself
  have hloop : ∀ (b : Bool), (b = true ↔ (G.1 li).1 2 0 ≠ 8 ∧ (G.2 ((G.1 li).1 2 0)).1 1 0 = s ∧ (∃ lo, zI S (ar 26) (sg ((G.1 li).1 2 0)) = nI lo ∧ lo = 0)) → wL_X7_isWhole_43 Z (ar 0) (nI s) (zI S (ar 5) li) Qp (fun (v : Int32) (S' : zS) => zb v ∧ Qp v S') (if b = true then 1 else 0) 0 S := fun b hb => by
    refine zlp3 (fun a x S' => S' = S ∧ ∃ m b', m ≤ n ∧ x = nI m ∧ a = (if b' = true then 1 else 0) ∧ (b' = true ↔ b = true ∧ ∀ j, j < m → s.testBit j = true → (G.1 j).1 2 0 = (G.1 li).1 2 0)) (fun _ x _ => 9 - x.toNatClampNeg) (fun rec a x S' hI hrec => ?_) _ _ S ⟨rfl, 0, b, by omega, rfl, rfl, ⟨fun z => ⟨z, fun j hj => absurd hj (by omega)⟩, fun z => z.1⟩⟩
    obtain ⟨rfl, m, b', hm, rfl, rfl, hb'⟩ := hI
    unfold wb_X7_isWhole_43
    have hle : (nI n ≤ nI m) ↔ n ≤ m := nI_leI (by omega) (by omega)
    have hK : (m = n ∨ b' = false) → (zb (if b' = true then (1 : Int32) else 0) ∧ Qp (if b' = true then 1 else 0) S') := fun hor => by
      refine ⟨z01_b, ?_⟩
      have : b' = whole? G n ((G.1 i).1 2 0) s := by
        rw [Bool.eq_iff_iff, hw, hb', hb]
        constructor
        · rintro ⟨⟨a1, a2, a3⟩, a4⟩
          rcases hor with e | e
          · rw [e] at a4
            exact ⟨a1, a2, a3, a4⟩
          · have := hb'.mpr ⟨hb.mpr ⟨a1, a2, a3⟩, a4⟩
            rw [e] at this
            exact Bool.noConfusion this
        · rintro ⟨a1, a2, a3, a4⟩
          exact ⟨⟨a1, a2, a3⟩, fun j hj => a4 j (by omega)⟩
      rw [this]
      exact k
    rw [hn.1, hle]
    refine ⟨mV_0 H, fun q => hK (Or.inl (by omega)), fun q => ⟨fun q2 => hK (Or.inr (z01_if.mp q2)), fun q2 => ?_⟩⟩
    have hbt : b' = true := Classical.byContradiction (fun z => by rw [if_neg z] at q2; exact q2 rfl)
    have hmn : m < n := by omega
    have hμ : 9 - (nI (m + 1)).toNatClampNeg < 9 - (nI m).toNatClampNeg := by rw [nI_clamp (by omega), nI_clamp (by omega)]; omega
    obtain ⟨v5m, c5m⟩ := mv_in8 H (k := 5) (by omega) (by omega) rfl hmn
    obtain ⟨hb1, hb2⟩ := hb'.mp hbt
    have h8 := (hb.mp hb1).1
    have zr := mv_rr H hln hmn h8
    refine m_isIn (by omega) ?_
    rw [bt_nI _ (by omega), nI_1]
    refine ⟨fun q3 y e => ?_, fun q3 => ⟨ar 5, mq_5 H, mkk_5 H, v5m, ?_⟩⟩
    · subst e
      refine hrec _ _ _ ⟨rfl, m + 1, true, by omega, rfl, rfl, ⟨fun _ => ⟨hb1, fun j hj hjs => ?_⟩, fun _ => rfl⟩⟩ hμ
      rcases Nat.lt_succ_iff_lt_or_eq.mp hj with e | e
      · exact hb2 j e hjs
      · subst e; rw [z01_if.mp q3] at hjs; exact Bool.noConfusion hjs
    · have hmb : s.testBit m = true := Classical.byContradiction (fun z => by rw [if_neg z] at q3; exact q3 rfl)
      rw [c5m, zr]
      refine ⟨fun q4 y e => ?_, fun q4 y e => ?_⟩
      · subst e
        exact hrec _ _ _ ⟨rfl, m + 1, false, by omega, rfl, rfl, ⟨fun z => Bool.noConfusion z, fun z => absurd (z.2 m (by omega) hmb) q4⟩⟩ hμ
      · subst e
        refine hrec _ _ _ ⟨rfl, m + 1, true, by omega, rfl, rfl, ⟨fun _ => ⟨hb1, fun j hj hjs => ?_⟩, fun _ => rfl⟩⟩ hμ
        rcases Nat.lt_succ_iff_lt_or_eq.mp hj with e | e
        · exact hb2 j e hjs
        · subst e; exact q4
  unfold w_X7_isWhole
  refine ⟨mV_0 H, ar 5, mq_5 H, m_least hs8 hs0 ⟨mkk_5 H, by rw [hli]; exact v5, fun y8 e8 => ?_⟩⟩
  rw [hli, c5] at e8
  subst e8
  by_cases h8 : (G.1 li).1 2 0 = 8
  · have em : zI S (ar 5) li = -1 := by rw [e5, if_pos h8]
    refine ⟨fun _ => hloop false ⟨fun z => Bool.noConfusion z, fun z => absurd h8 z.1⟩, fun z => absurd em z⟩
  · have es : zI S (ar 5) li = nI (sg ((G.1 li).1 2 0)) := by rw [e5, if_neg h8]
    obtain ⟨g1, g24, g25, g28, ⟨lo, tk, b1, b2, b3, b4, b5, b6⟩, -⟩ := mv_R H hln rfl h8
    have g25 : zI S (ar 25) (sg ((G.1 li).1 2 0)) = nI ((G.2 ((G.1 li).1 2 0)).1 1 0) := g25
    have b1 : zI S (ar 26) (sg ((G.1 li).1 2 0)) = nI lo := b1
    have hsl := fun k (h3 : 3 ≤ k) (hk : k < 36) (hm : mln k = 16) => mv_ins H (k := k) (j := sg ((G.1 li).1 2 0)) h3 hk hm (by omega) g1
    have hne : ¬ zI S (ar 5) li = -1 := fun e => nI_pos (n := sg ((G.1 li).1 2 0)) (by omega) (by rw [← es, e]; decide)
    have hmem := (h.2.1 ((G.1 li).1 2 0)).1.1
    have zm : (nI ((G.2 ((G.1 li).1 2 0)).1 1 0) = nI s) ↔ (G.2 ((G.1 li).1 2 0)).1 1 0 = s := nI_eq (by have := Nat.pow_le_pow_right (n := 2) (by omega) hn.2.2.2.1; omega) (by omega)
    have zl : (nI lo = 0) ↔ lo = 0 := nI_eq (by omega) (by omega : 0 < 2 ^ 31)
    refine ⟨fun z => absurd z hne, fun _ => ⟨ar 25, mq_25 H, mkk_25 H, by rw [es]; exact (hsl 25 (by omega) (by omega) rfl).1, ?_⟩⟩
    have hL := hloop
    rw [es, (hsl 25 (by omega) (by omega) rfl).2, g25, zm]
    rw [es] at hL
    refine ⟨fun q => hL false ⟨fun z => Bool.noConfusion z, fun z => absurd z.2.1 q⟩, fun q => ⟨ar 26, mq_26 H, mkk_26 H, (hsl 26 (by omega) (by omega) rfl).1, ?_⟩⟩
    rw [b1, zl]
    refine ⟨fun q2 => hL false ⟨fun z => Bool.noConfusion z, fun z => ?_⟩, fun q2 => hL true ⟨fun _ => ⟨h8, q, lo, b1, q2⟩, fun _ => rfl⟩⟩
    obtain ⟨lo', c1, c2⟩ := z.2.2
    rw [b1, c2] at c1
    exact absurd ((nI_eq (by omega) (by omega)).mp c1) q2
end
