/-! the reference's end of a ring -/
section
variable {Z : zZ} {S0 S : zS} {ar : Nat → Nat} {n w : Nat} {sg : Nat → Nat} {u u' : Nat → Nat → Bool} {G : gT} {i : Nat} {N : nT} {r t l : Nat}
/-- some of T have a place: its cell shares a bit with T -/
theorem and_any {x : Int32} {G : gT} {n T q : Nat} (hn : n ≤ 8) (hT : T < 2 ^ n) (hb : ∀ j, j < n → T.testBit j = true → bt x j = decide ((G.1 j).1 16 q ≠ 0)) : (x &&& nI T = 0) ↔ anyf G T q n = false := by
  constructor
  · intro h
    refine Bool.eq_false_iff.mpr (fun z => ?_)
    obtain ⟨j, hj, hjs, hjx⟩ := anyf_iff.mp z
    have := congrArg (fun y => bt y j) h
    rw [b_and, b_0, bt_nI _ (by omega), hjs, hb j hj hjs, decide_eq_true hjx] at this
    exact absurd this (by decide)
  · intro h
    refine b_ext (fun j hj => ?_)
    rw [b_and, b_0, bt_nI _ hj]
    by_cases c : T.testBit j = true
    · have hjn : j < n := Nat.lt_of_not_le (fun q => by rw [mask_hi hT q] at c; exact Bool.noConfusion c)
      rw [hb j hjn c, c, Bool.and_true]
      refine decide_eq_false (fun z => ?_)
      have : anyf G T q n = true := anyf_iff.mpr ⟨j, hjn, c, z⟩
      rw [h] at this
      exact Bool.noConfusion this
    · have : T.testBit j = false := by simpa using c
      rw [this, Bool.and_false]
def haveP (G : gT) (n T q : Nat) (p : Nat) : Bool := decide (p < q) && haveA G n T p
theorem m_end {T : Nat} (H : zMV Z S0 ar n w sg u S G) (h : gW n G t l) (ht : t < 2 ^ 19) (hl : l < 2 ^ 19) (hi : i < n) (hr : (G.1 i).1 2 0 = r) (hr8 : r ≠ 8) (hT : T < 2 ^ n) (hTr : ∀ j, j < n → T.testBit j = true → (G.1 j).1 2 0 = r) (hu : ∀ j, j < n → T.testBit j = true → u 6 j = false) {Qp : zS → Prop} (k : ∀ S', zMV Z S0 ar n w sg (uT u T n) S' (gEnd G n T r) → Qp S') : w_X7_end Z (ar 0) (nI (sg r)) (nI T) S Qp := by
  have hn := mV_n H
  have hT8 : T < 256 := Nat.lt_of_lt_of_le hT (Nat.pow_le_pow_right (by omega) hn.2.2.2.1)
  have h7 : ∀ j, j < n → (G.1 j).1 7 0 ≤ 100 := fun j hj => (h.1 j hj).2.1.2.1
  have hmx : ∀ q, q ≤ n → mxf G T q ≤ 100 := fun q hq => mxf_le (fun j hj => h7 j (by omega))
  have hL := (h.2.1 r).1.2.2
  have hok : rOk (G.2 r) := ⟨by have := h.2.2.1.2 r; omega, (h.2.1 r).2.2.2⟩
  have hnum := h.2.2.2.2.1.2.1 i hi (by rw [hr]; exact hr8)
  rw [hr] at hnum
  have hlast : ∀ r, (G.2 r).1 3 0 ≤ 100 := fun r => (h.2.1 r).1.2.2
  have hvt : ∀ j, j < n → (G.1 j).1 4 0 < 2 ^ 30 := fun j hj => by have := (h.2.2.1.1 j hj).2.1; omega
  have hhL : ∀ p, haveA G n T p = true → p ≤ (G.2 r).1 3 0 := fun p hp => by
    unfold haveA at hp
    rw [Bool.and_eq_true, Bool.and_eq_true, decide_eq_true_iff, decide_eq_true_iff, anyf_iff] at hp
    obtain ⟨-, -, m, hm, hms, hmx⟩ := hp
    have := h.2.2.2.1.1 m hm p hmx
    rw [hTr m hm hms] at this
    exact this.2.2
  unfold w_X7_end
  -- the third loop, once all have what one has
  have h3 : ∀ S43, zMV Z S0 ar n w sg u S43 (gGets G n T r (haveA G n T)) → wL_X7_end_138 Z (ar 0) (nI (sg r)) (nI T) (nI (mxf G T n)) Qp (fun (S96 : zS) => Qp S96) 0 S43 := fun S43 H43 => by
    have hB : ∀ m, m < n → T.testBit m = true → (gGets G n T r (haveA G n T)).1 m = nGets (G.1 m) (G.2 r) (haveA G n T) := fun m hm hb => gGets_in G _ hm hb
    have H0 : zMV Z S0 ar n w sg (uT u T 0) S43 (fun j => if j < 0 ∧ T.testBit j = true then nEndAll G n T r j else (gGets G n T r (haveA G n T)).1 j, (gGets G n T r (haveA G n T)).2) := by
      rw [gUpd_0, uT_0]; exact H43
    refine zlp2 (fun y S' => ∃ m, m ≤ n ∧ y = nI m ∧ zMV Z S0 ar n w sg (uT u T m) S' (fun j => if j < m ∧ T.testBit j = true then nEndAll G n T r j else (gGets G n T r (haveA G n T)).1 j, (gGets G n T r (haveA G n T)).2)) (fun y _ => 9 - y.toNatClampNeg) (fun rec y S' hI hrec => ?_) _ S43 ⟨0, by omega, rfl, H0⟩
    obtain ⟨m, hm, rfl, H3⟩ := hI
    unfold wb_X7_end_138
    have hle : (nI n ≤ nI m) ↔ n ≤ m := nI_leI (by omega) (by omega)
    rw [(mV_n H3).1, hle]
    refine ⟨mV_0 H, fun z => ?_, fun z => ?_⟩
    · have : m = n := by omega
      subst this
      refine k S' ?_
      have eE : gEnd G m T r = (fun j => if j < m ∧ T.testBit j = true then nEndAll G m T r j else (gGets G m T r (haveA G m T)).1 j, (gGets G m T r (haveA G m T)).2) := by
        refine Prod.ext (funext fun j => ?_) rfl
        show (if j < m ∧ T.testBit j = true then nEndAll G m T r j else G.1 j) = if j < m ∧ T.testBit j = true then nEndAll G m T r j else (gGets G m T r (haveA G m T)).1 j
        by_cases c : j < m ∧ T.testBit j = true
        · rw [if_pos c, if_pos c]
        · rw [if_neg c, if_neg c]
          exact (if_neg c : (gGets G m T r (haveA G m T)).1 j = G.1 j).symm
      rw [eE]
      exact H3
    · have hmn : m < n := by omega
      have hμ : 9 - (nI (m + 1)).toNatClampNeg < 9 - (nI m).toNatClampNeg := by rw [nI_clamp (by omega), nI_clamp (by omega)]; omega
      refine m_isIn (by omega) ?_
      rw [bt_nI _ (by omega), nI_1]
      refine ⟨fun q3 y e => ?_, fun q3 => ?_⟩
      · subst e
        have hf := z01_if.mp q3
        refine hrec _ _ ⟨m + 1, by omega, rfl, ?_⟩ hμ
        rw [gUpd_s0 (G := gGets G n T r (haveA G n T)) _ hf, uT_s0 _ hf]
        exact H3
      · have hmb : T.testBit m = true := Classical.byContradiction (fun z => by rw [if_neg z] at q3; exact q3 rfl)
        obtain ⟨v17, c17⟩ := mv_in8 H (k := 17) (by omega) (by omega) rfl hmn
        refine ⟨ar 17, mq_17 H, mkk_17 H, v17, fun S52 e52 => ?_⟩
        rw [c17] at e52
        have H4 := mn_0 H3 (i := m)
        rw [gUpd_at (gGets G n T r (haveA G n T)), hB m hmn hmb] at H4
        have H5 := ms_F H4 7 (by omega) (by omega) (v := mxf G T n) (by omega)
        have e52' : S52 = zsI S' (ar (mA 7)) m (nI (mxf G T n)) := e52
        rw [← e52'] at H5
        have eN : ∀ f, f ≠ 7 → f ≠ 16 → f ≠ 14 → f ≠ 15 → (nsI (nGets (G.1 m) (G.2 r) (haveA G n T)) 7 0 (mxf G T n)).1 f 0 = (G.1 m).1 f 0 := fun f a b c d => by
          rw [n1_ne _ _ _ _ a, nGets_ne _ _ _ _ b c d]
        have e2 := eN 2 (by omega) (by omega) (by omega) (by omega)
        rw [hTr m hmn hmb] at e2
        have hb := (h.1 m hmn).2.1
        have hbt := h.2.2.1.1 m hmn
        have hum : uT u T m 6 m = false := by
          show (if 6 = 6 ∧ T.testBit m = true ∧ m < m then true else u 6 m) = false
          rw [if_neg (fun z => by omega)]
          exact hu m hmn hmb
        have hE := m_endT (T := T) (x3 := nI (mxf G T n)) (R := G.2 r) (Qp := Qp) (K := fun (S92 : zS) => ∀ y93 : Int32, y93 = nI (m + 1) → rec y93 S92) H5 hum hmn (by rw [e2]; exact hr8) (by rw [e2]; rfl) hok hnum (by rw [eN 4 (by omega) (by omega) (by omega) (by omega)]; exact hvt m hmn) (by rw [eN 6 (by omega) (by omega) (by omega) (by omega)]; exact hb.1) (by rw [n1_eq]; exact hmx n (by omega)) (by rw [eN 10 (by omega) (by omega) (by omega) (by omega)]; omega) (by rw [eN 8 (by omega) (by omega) (by omega) (by omega)]; omega) hL (by omega) (fun p p1 p2 => by
          rw [n1_ne _ _ _ _ (by omega), nGets_16, if_neg (fun z => by have := hhL p z; omega)]
          exact W_has0 h hmn (hTr m hmn hmb) p p1 p2) (fun S92 H92 y93 e93 => by
          subst e93
          refine hrec _ _ ⟨m + 1, by omega, rfl, ?_⟩ hμ
          rw [gUpd_s1 (G := gGets G n T r (haveA G n T)) _ hmb, uT_s1 _ hmb]
          exact H92)
        rw [e2] at hE
        exact hE
  -- the second loop
  have h2 : ∀ S15, zMV Z S0 ar n w sg u S15 G → wL_X7_end_55 Z (ar 0) (nI (sg r)) (nI T) (nI (mxf G T n)) Qp (fun (S43 : zS) => wL_X7_end_138 Z (ar 0) (nI (sg r)) (nI T) (nI (mxf G T n)) Qp (fun (S96 : zS) => Qp S96) 0 S43) 1 S15 := fun S15 H15 => by
    have H0 : zMV Z S0 ar n w sg u S15 (gGets G n T r (haveP G n T 1)) := by
      rw [gGets_0 _ _ _ _ (fun p => ?_)]
      · exact H15
      · unfold haveP haveA
        by_cases c : p < 1
        · have : ¬ 1 ≤ p := by omega
          simp [this]
        · simp [c]
    refine zlp2 (fun y S' => ∃ q, 1 ≤ q ∧ q ≤ (G.2 r).1 3 0 + 1 ∧ y = nI q ∧ zMV Z S0 ar n w sg u S' (gGets G n T r (haveP G n T q))) (fun y _ => 102 - y.toNatClampNeg) (fun rec y S' hI hrec => ?_) _ S15 ⟨1, by omega, by omega, rfl, H0⟩
    obtain ⟨q, hq1, hq2, rfl, H'⟩ := hI
    have er : ∀ j, ((gGets G n T r (haveP G n T q)).1 j).1 2 0 = (G.1 j).1 2 0 := fun j => gGets_ne _ _ _ _ _ _ _ (by omega) (by omega) (by omega)
    obtain ⟨g1, -, -, g28, -, -, -⟩ := mv_R H' hi ((er i).trans hr) hr8
    have g28 : zI S' (ar 28) (sg r) = nI ((G.2 r).1 3 0) := g28
    have hsl := mv_ins H (k := 28) (j := sg r) (m := 16) (by omega) (by omega) rfl (by omega) g1
    have hle : (nI ((G.2 r).1 3 0) < nI q) ↔ (G.2 r).1 3 0 < q := nI_ltI (by omega) (by omega)
    unfold wb_X7_end_55
    refine ⟨mV_0 H, ar 28, mq_28 H, mkk_28 H, hsl.1, ?_⟩
    rw [hsl.2, g28, hle, nI_1]
    refine ⟨fun z => h3 S' ?_, fun z => ⟨ar 33, mq_33 H, ?_⟩⟩
    · have : q = (G.2 r).1 3 0 + 1 := by omega
      rw [gGets_ext G n T r (A := haveA G n T) (B := haveP G n T q) (fun p => ?_)]
      · exact H'
      · unfold haveP
        by_cases c : haveA G n T p = true
        · have := hhL p c
          rw [c, decide_eq_true (by omega)]; rfl
        · have : haveA G n T p = false := by simpa using c
          rw [this, Bool.and_false]
    · have hμ : 102 - (nI (q + 1)).toNatClampNeg < 102 - (nI q).toNatClampNeg := by rw [nI_clamp (by omega), nI_clamp (by omega)]; omega
      obtain ⟨v33, c33⟩ := mv_ins H (k := 33) (j := 101 * sg r + q) (m := 1616) (by omega) (by omega) rfl (by omega) (by omega)
      have hPq : haveP G n T q q = false := by
        unfold haveP
        simp
      have hbit : ∀ j, j < n → T.testBit j = true → bt (zI S' (ar 33) (101 * sg r + q)) j = decide ((G.1 j).1 16 q ≠ 0) := fun j hj hjs => by
        have z2 := (mV_N H' hj).2.2.1
        unfold mNh at z2
        rw [er j, hTr j hj hjs] at z2
        have z3 := z2 hr8 q hq1 (by show q ≤ (G.2 r).1 3 0; omega)
        rw [gGets_in G _ hj hjs, nGets_16, hPq, if_neg (by decide)] at z3
        exact z3
      have hand := and_any hn.2.2.2.1 hT hbit
      have eS : ∀ p, p ≠ q → haveP G n T (q + 1) p = haveP G n T q p := fun p hp => by
        unfold haveP
        by_cases h1 : p < q
        · rw [decide_eq_true h1, decide_eq_true (by omega)]
        · rw [decide_eq_false h1, decide_eq_false (by omega)]
      have eT : haveP G n T (q + 1) q = anyf G T q n := by
        unfold haveP haveA
        rw [decide_eq_true (by omega : q < q + 1), decide_eq_true hq1, decide_eq_true (by omega : q ≤ 100)]
        rfl
      refine m_place ⟨mkk_33 H, v33, ?_⟩
      rw [c33, hand]
      refine ⟨fun q0 => ?_, fun q0 => ?_⟩
      · -- nobody has it
        refine ⟨1, ?_⟩
        show wb_X7_end_92 Z (ar 0) (nI (sg r)) (nI T) (nI (mxf G T n)) (nI q) 0 Qp _ _ 0 S'
        unfold wb_X7_end_92
        have hgo : ∀ y38 : Int32, y38 = nI (q + 1) → rec y38 S' := fun y e => by
          subst e
          refine hrec _ _ ⟨q + 1, by omega, by omega, rfl, ?_⟩ hμ
          rw [gGets_ext G n T r (A := haveP G n T (q + 1)) (B := haveP G n T q) (fun p => ?_)]
          · exact H'
          · by_cases e : p = q
            · rw [e, eT, q0, hPq]
            · exact eS p e
        exact ⟨mV_0 H, fun _ => hgo, fun _ => ⟨fun _ => hgo, fun z => absurd rfl z⟩⟩
      · -- all get it
        have q0' : anyf G T q n = true := by simpa using q0
        have H1 : zMV Z S0 ar n w sg u S' (gGive (gGets G n T r (haveP G n T q)) (fun j => T.testBit j) r q 0) := by rw [gGive_0]; exact H'
        refine zlp2 (fun y S' => ∃ m, m ≤ n ∧ y = nI m ∧ zMV Z S0 ar n w sg u S' (gGive (gGets G n T r (haveP G n T q)) (fun j => T.testBit j) r q m)) (fun y _ => 9 - y.toNatClampNeg) (fun rec2 y S' hI hrec2 => ?_) _ S' ⟨0, by omega, rfl, H1⟩
        obtain ⟨m, hm, rfl, H2⟩ := hI
        unfold wb_X7_end_92
        have hle2 : (nI n ≤ nI m) ↔ n ≤ m := nI_leI (by omega) (by omega)
        rw [(mV_n H2).1, hle2]
        refine ⟨mV_0 H, fun z => ?_, fun z => ⟨fun z2 => absurd z2 (by decide), fun _ => ?_⟩⟩
        · have : m = n := by omega
          subst this
          rw [gGets_s] at H2
          intro y40 e40
          subst e40
          refine hrec _ _ ⟨q + 1, by omega, by omega, rfl, ?_⟩ hμ
          rw [gGets_ext G m T r (A := haveP G m T (q + 1)) (B := fun j => haveP G m T q j || decide (j = q)) (fun p => ?_)]
          · exact H2
          · by_cases e : p = q
            · rw [e, eT, q0']; simp
            · rw [eS p e]; simp [e]
        · have hmn : m < n := by omega
          have hμ2 : 9 - (nI (m + 1)).toNatClampNeg < 9 - (nI m).toNatClampNeg := by rw [nI_clamp (by omega), nI_clamp (by omega)]; omega
          refine m_isIn (by omega) ?_
          rw [bt_nI _ (by omega), nI_1]
          refine ⟨fun q3 y e => ?_, fun q3 => ?_⟩
          · subst e
            exact hrec2 _ _ ⟨m + 1, by omega, rfl, by rw [gGive_s0 _ _ _ (z01_if.mp q3)]; exact H2⟩ hμ2
          · have hmb : T.testBit m = true := Classical.byContradiction (fun z => by rw [if_neg z] at q3; exact q3 rfl)
            have H3 := mn_0 H2 (i := m)
            have eM : (gGive (gGets G n T r (haveP G n T q)) (fun j => T.testBit j) r q m).1 m = (gGets G n T r (haveP G n T q)).1 m := by
              show (if m < m ∧ T.testBit m = true then _ else _) = _
              rw [if_neg (fun z => by omega)]
            rw [eM] at H3
            refine m_gets (R := G.2 r) H3 hmn (by rw [er, hTr m hmn hmb]; exact hr8) (by rw [er, hTr m hmn hmb]; rfl) hok hnum (by rw [gGets_ne _ _ _ _ _ _ _ (by omega) (by omega) (by omega)]; exact hvt m hmn) hlast hq1 (by omega) (fun S32 H32 y e => ?_)
            subst e
            exact hrec2 _ _ ⟨m + 1, by omega, rfl, by rw [gGive_s1 _ _ _ (P := fun j => T.testBit j) hmb]; exact H32⟩ hμ2
  -- the first loop
  refine zlp3 (fun a x S' => S' = S ∧ ∃ m, m ≤ n ∧ x = nI m ∧ a = nI (mxf G T m)) (fun _ x _ => 9 - x.toNatClampNeg) (fun rec a x S' hI hrec => ?_) _ _ S ⟨rfl, 0, by omega, rfl, rfl⟩
  obtain ⟨rfl, m, hm, rfl, rfl⟩ := hI
  unfold wb_X7_end_5
  have hle : (nI n ≤ nI m) ↔ n ≤ m := nI_leI (by omega) (by omega)
  rw [hn.1, hle]
  refine ⟨mV_0 H, fun q => ?_, fun q => ?_⟩
  · have : m = n := by omega
    subst this
    exact h2 S' H
  · have hmn : m < n := by omega
    have hμ : 9 - (nI (m + 1)).toNatClampNeg < 9 - (nI m).toNatClampNeg := by rw [nI_clamp (by omega), nI_clamp (by omega)]; omega
    obtain ⟨v17, c17⟩ := mv_in8 H (k := 17) (by omega) (by omega) rfl hmn
    refine m_isIn (by omega) ?_
    rw [bt_nI _ (by omega), nI_1]
    refine ⟨fun q3 y e => ?_, fun q3 => ⟨ar 17, mq_17 H, mkk_17 H, v17, ?_⟩⟩
    · subst e
      refine hrec _ _ _ ⟨rfl, m + 1, by omega, rfl, ?_⟩ hμ
      have : mxf G T (m + 1) = mxf G T m := if_neg (fun z => by rw [z01_if.mp q3] at z; exact absurd z.1 (by decide))
      rw [this]
    · have hmb : T.testBit m = true := Classical.byContradiction (fun z => by rw [if_neg z] at q3; exact q3 rfl)
      have a7 : zI S' (ar 17) m = nI ((G.1 m).1 7 0) := mv_F (mn_0 H (i := m)) hmn 7 (by omega) (by omega) (by omega) (fun _ => by rw [hTr m hmn hmb]; exact hr8)
      have zl : (nI ((G.1 m).1 7 0) ≤ nI (mxf G T m)) ↔ (G.1 m).1 7 0 ≤ mxf G T m := nI_leI (by have := h7 m hmn; omega) (by have := hmx m (by omega); omega)
      have hmd : mxf G T (m + 1) = if T.testBit m = true ∧ mxf G T m < (G.1 m).1 7 0 then (G.1 m).1 7 0 else mxf G T m := rfl
      rw [c17, a7, zl]
      refine ⟨fun q4 y e => ?_, fun q4 y10 e10 y e => ?_⟩
      · subst e
        refine hrec _ _ _ ⟨rfl, m + 1, by omega, rfl, ?_⟩ hμ
        rw [hmd, if_neg (fun z => by omega)]
      · subst e
        refine hrec _ _ _ ⟨rfl, m + 1, by omega, rfl, ?_⟩ hμ
        rw [hmd, if_pos ⟨hmb, by omega⟩, e10]
end
