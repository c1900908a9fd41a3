/-! the reference's voter, quorum, next ring -/
def rkey (G : gT) (r : Nat) : Nat := (G.2 r).1 0 0 * 16 + ls ((G.2 r).1 1 0)
section
variable {Z : zZ} {S0 S : zS} {ar : Nat → Nat} {n w : Nat} {sg : Nat → Nat} {u u' : Nat → Nat → Bool} {G : gT} {i : Nat} {N : nT} {r t l : Nat}
theorem m_voter (H : zMV Z S0 ar n w sg u S G) {s : Nat} (hs : s < 2 ^ n) (hs0 : s ≠ 0) (b4 : ∀ j, j < n → (G.1 j).1 4 0 < 2 ^ 30) {Qp : Int32 → zS → Prop} (k : ∀ v, v < n → s.testBit v = true → (∀ j, j < n → s.testBit j = true → (G.1 j).1 4 0 ≤ (G.1 v).1 4 0) → Qp (nI v) S) : w_X7_voter Z (ar 0) (nI s) S Qp := by
  have hn := mV_n H
  have hs8 : s < 256 := Nat.lt_of_lt_of_le hs (Nat.pow_le_pow_right (by omega) hn.2.2.2.1)
  have hln : ls s < n := ls_lt hs hn.2.2.2.1 hs0
  unfold w_X7_voter
  refine m_least hs8 hs0 ?_
  refine zlp3 (fun a x S' => S' = S ∧ ∃ m v, m ≤ n ∧ x = nI m ∧ a = nI v ∧ v < n ∧ s.testBit v = true ∧ ∀ j, j < m → s.testBit j = true → (G.1 j).1 4 0 ≤ (G.1 v).1 4 0) (fun _ x _ => 9 - x.toNatClampNeg) (fun rec a x S' hI hrec => ?_) _ _ S ⟨rfl, 0, ls s, by omega, rfl, rfl, hln, ls_bit (by omega), fun j hj => absurd hj (by omega)⟩
  obtain ⟨rfl, m, v, hm, rfl, rfl, hv, hvs, hmax⟩ := hI
  unfold wb_X7_voter_7
  have hle : (nI n ≤ nI m) ↔ n ≤ m := nI_leI (by omega) (by omega)
  rw [hn.1, hle, nI_1]
  refine ⟨mV_0 H, fun q => ?_, fun q => ?_⟩
  · have : m = n := by omega
    subst this
    exact k v hv hvs hmax
  · have hmn : m < n := by omega
    have hμ : 9 - (nI (m + 1)).toNatClampNeg < 9 - (nI m).toNatClampNeg := by rw [nI_clamp (by omega), nI_clamp (by omega)]; omega
    obtain ⟨v10, c10⟩ := mv_in8 H (k := 10) (by omega) (by omega) rfl hmn
    obtain ⟨v10v, c10v⟩ := mv_in8 H (k := 10) (by omega) (by omega) rfl hv
    have a1 : zI S' (ar 10) m = nI ((G.1 m).1 4 0) := mv_F (mn_0 H (i := m)) hmn 4 (by omega) (by omega) (by omega) (by omega)
    have a2 : zI S' (ar 10) v = nI ((G.1 v).1 4 0) := mv_F (mn_0 H (i := v)) hv 4 (by omega) (by omega) (by omega) (by omega)
    have zl : (nI ((G.1 m).1 4 0) ≤ nI ((G.1 v).1 4 0)) ↔ (G.1 m).1 4 0 ≤ (G.1 v).1 4 0 := nI_leI (by have := b4 m hmn; omega) (by have := b4 v hv; omega)
    refine m_isIn (by omega) ?_
    rw [bt_nI _ (by omega)]
    refine ⟨fun q3 y e => ?_, fun q3 => ⟨ar 10, mq_10 H, mkk_10 H, v10, v10v, ?_⟩⟩
    · subst e
      refine hrec _ _ _ ⟨rfl, m + 1, v, by omega, rfl, rfl, hv, hvs, fun j hj hjs => ?_⟩ hμ
      rcases Nat.lt_succ_iff_lt_or_eq.mp hj with e | e
      · exact hmax j e hjs
      · subst e; rw [z01_if.mp q3] at hjs; exact Bool.noConfusion hjs
    · have hmb : s.testBit m = true := Classical.byContradiction (fun z => by rw [if_neg z] at q3; exact q3 rfl)
      rw [c10, c10v, a1, a2, zl]
      refine ⟨fun q4 y e => ?_, fun q4 y e => ?_⟩
      · subst e
        refine hrec _ _ _ ⟨rfl, m + 1, v, by omega, rfl, rfl, hv, hvs, fun j hj hjs => ?_⟩ hμ
        rcases Nat.lt_succ_iff_lt_or_eq.mp hj with e | e
        · exact hmax j e hjs
        · subst e; exact q4
      · subst e
        refine hrec _ _ _ ⟨rfl, m + 1, m, by omega, rfl, rfl, hmn, hmb, fun j hj hjs => ?_⟩ hμ
        rcases Nat.lt_succ_iff_lt_or_eq.mp hj with e | e
        · have := hmax j e hjs; omega
        · subst e; exact Nat.le_refl _
theorem m_isPrimary (H : zMV Z S0 ar n w sg u S G) (h : gW n G t l) (ht : t < 2 ^ 20) {s c : Nat} (hs : s < 2 ^ n) (hc : isFore G n s c) {Qp : Int32 → zS → Prop} (k : Qp (if quor s ((G.1 c).1 5 0) = true then 1 else 0) S) : w_X7_isPrimary Z (ar 0) (nI s) S Qp := by
  have hn := mV_n H
  have hs0 : s ≠ 0 := fun e => by have := hc.2.1; rw [e, Nat.zero_testBit] at this; exact Bool.noConfusion this
  unfold w_X7_isPrimary
  refine ⟨mV_0 H, ar 11, mq_11 H, m_voter H hs hs0 (fun j hj => by have := (h.2.2.1.1 j hj).2.1; omega) (fun v hv hvs hmax => ⟨mkk_11 H, (mv_in8 H (k := 11) (by omega) (by omega) rfl hv).1, fun y8 e8 => ?_⟩)⟩
  have e11 : zI S (ar 11) v = nI ((G.1 v).1 5 0) := mv_F (mn_0 H (i := v)) hv 5 (by omega) (by omega) (by omega) (by omega)
  have hvc : (G.1 v).1 4 0 = (G.1 c).1 4 0 := by
    have a := hmax c hc.1 hc.2.1
    have b := isFore_max hc v hv hvs
    omega
  have hmem := h.2.2.2.2.1.2.2.2.1 v c hv hc.1 hvc
  rw [(mv_in8 H (k := 11) (by omega) (by omega) rfl hv).2, e11, hmem] at e8
  subst e8
  have h5 := (h.1 c hc.1).1.2.2.2
  generalize (G.1 c).1 5 0 = vm at *
  have hvm : vm < 256 := Nat.lt_of_lt_of_le h5.1 (Nat.pow_le_pow_right (by omega) hn.2.2.2.1)
  have c1 := cnt_le vm
  have c2 := cnt_le (vm &&& s)
  have kT : quor s vm = true → Qp 1 S := fun h => by rw [h, if_pos rfl] at k; exact k
  have kF : quor s vm = false → Qp 0 S := fun h => by rw [h, if_neg (by decide)] at k; exact k
  rw [nx_and]
  refine m_count (fun y11 e11 => m_count ?_)
  have e3 : y11 = nI (2 * cnt (vm &&& s)) := by rw [e11]; exact pk_mul 2 _
  subst e3
  have z1 : (nI (cnt vm) < nI (2 * cnt (vm &&& s))) ↔ cnt vm < 2 * cnt (vm &&& s) := nI_ltI (by omega) (by omega)
  have z2 : (nI (2 * cnt (vm &&& s)) = nI (cnt vm)) ↔ 2 * cnt (vm &&& s) = cnt vm := nI_eq (by omega) (by omega)
  rw [z1]
  refine ⟨fun q => kT ?_, fun q => m_count ?_⟩
  · unfold quor; simp [q]
  · rw [z2]
    have hl : ls vm < 8 := ls_lt (n := 8) hvm (by omega) h5.2
    refine ⟨fun q2 => kF ?_, fun q2 => m_least hvm h5.2 (m_isIn (by omega) ?_)⟩
    · unfold quor; simp [q, q2]
    · rw [bt_nI _ (by omega)]
      refine ⟨fun q3 => kF ?_, fun q3 => kT ?_⟩
      · have := z01_if.mp q3
        unfold quor; simp [q, this]
      · have : s.testBit (ls vm) = true := Classical.byContradiction (fun z => by rw [if_neg z] at q3; exact q3 rfl)
        unfold quor; simp [q2, this]
theorem m_isBefore (H : zMV Z S0 ar n w sg u S G) (h : gW n G t l) (ht : t < 2 ^ 20) {a b ra rb : Nat} (ha : a < n) (hb : b < n) (hra : (G.1 a).1 2 0 = ra) (hrb : (G.1 b).1 2 0 = rb) (ha8 : ra ≠ 8) (hb8 : rb ≠ 8) {Qp : Int32 → zS → Prop} (k : Qp (if rkey G ra < rkey G rb then 1 else 0) S) : w_X7_isBefore Z (ar 0) (nI (sg ra)) (nI (sg rb)) S Qp := by
  have hn := mV_n H
  obtain ⟨g1, g24, g25, -⟩ := mv_R H ha hra ha8
  obtain ⟨k1, k24, k25, -⟩ := mv_R H hb hrb hb8
  have g24 : zI S (ar 24) (sg ra) = nI ((G.2 ra).1 0 0) := g24
  have g25 : zI S (ar 25) (sg ra) = nI ((G.2 ra).1 1 0) := g25
  have k24 : zI S (ar 24) (sg rb) = nI ((G.2 rb).1 0 0) := k24
  have k25 : zI S (ar 25) (sg rb) = nI ((G.2 rb).1 1 0) := k25
  have hsa := fun k (h3 : 3 ≤ k) (hk : k < 36) (hm : mln k = 16) => mv_ins H (k := k) (j := sg ra) h3 hk hm (by omega) g1
  have hsb := fun k (h3 : 3 ≤ k) (hk : k < 36) (hm : mln k = 16) => mv_ins H (k := k) (j := sg rb) h3 hk hm (by omega) k1
  have ba := h.2.2.1.2 ra
  have bb := h.2.2.1.2 rb
  have hma := (h.2.1 ra).1.1
  have hmb := (h.2.1 rb).1.1
  have p8 := Nat.pow_le_pow_right (n := 2) (by omega) hn.2.2.2.1
  have ma0 : (G.2 ra).1 1 0 ≠ 0 := fun e => by
    have := h.2.2.2.2.1.1 a ha (by rw [hra]; exact ha8)
    rw [hra, e, Nat.zero_testBit] at this
    exact Bool.noConfusion this
  have mb0 : (G.2 rb).1 1 0 ≠ 0 := fun e => by
    have := h.2.2.2.2.1.1 b hb (by rw [hrb]; exact hb8)
    rw [hrb, e, Nat.zero_testBit] at this
    exact Bool.noConfusion this
  have la := ls_le ((G.2 ra).1 1 0)
  have lb := ls_le ((G.2 rb).1 1 0)
  have z1 : (nI ((G.2 ra).1 0 0) < nI ((G.2 rb).1 0 0)) ↔ (G.2 ra).1 0 0 < (G.2 rb).1 0 0 := nI_ltI (by omega) (by omega)
  have z2 : (nI ((G.2 ra).1 0 0) = nI ((G.2 rb).1 0 0)) ↔ (G.2 ra).1 0 0 = (G.2 rb).1 0 0 := nI_eq (by omega) (by omega)
  have z3 : (nI (ls ((G.2 rb).1 1 0)) ≤ nI (ls ((G.2 ra).1 1 0))) ↔ ls ((G.2 rb).1 1 0) ≤ ls ((G.2 ra).1 1 0) := nI_leI (by omega) (by omega)
  have kT : rkey G ra < rkey G rb → Qp 1 S := fun h => by rw [if_pos h] at k; exact k
  have kF : ¬ rkey G ra < rkey G rb → Qp 0 S := fun h => by rw [if_neg h] at k; exact k
  unfold w_X7_isBefore
  refine ⟨mV_0 H, ar 24, mq_24 H, mkk_24 H, (hsa 24 (by omega) (by omega) rfl).1, (hsb 24 (by omega) (by omega) rfl).1, ?_⟩
  rw [(hsa 24 (by omega) (by omega) rfl).2, (hsb 24 (by omega) (by omega) rfl).2, g24, k24, z1, z2]
  refine ⟨fun q => kT ?_, fun q => ⟨fun q2 => kF ?_, fun q2 => ⟨ar 25, mq_25 H, mkk_25 H, (hsa 25 (by omega) (by omega) rfl).1, ?_⟩⟩⟩
  · unfold rkey; omega
  · unfold rkey; omega
  · rw [g25]
    refine m_least (by omega) ma0 ⟨(hsb 25 (by omega) (by omega) rfl).1, ?_⟩
    rw [k25]
    refine m_least (by omega) mb0 ?_
    rw [z3]
    refine ⟨fun q3 => kF ?_, fun q3 => kT ?_⟩
    · unfold rkey; omega
    · unfold rkey; omega
/-- a ring that nodes of s are of -/
def useR (G : gT) (n s r : Nat) : Prop := r ≠ 8 ∧ ∃ j, j < n ∧ s.testBit j = true ∧ (G.1 j).1 2 0 = r
theorem slSet_use (G : gT) (sg : Nat → Nat) (n s q : Nat) : slSet G sg n s q ≠ 0 ↔ ∃ r, useR G n s r ∧ sg r = q := by
  constructor
  · intro h0
    have : ∃ j, (slSet G sg n s q).testBit j = true := Classical.byContradiction (fun z => h0 (Nat.eq_of_testBit_eq (fun j => by
      rw [Nat.zero_testBit]
      exact Bool.eq_false_iff.mpr (fun y => z ⟨j, y⟩))))
    obtain ⟨j, hj⟩ := this
    unfold slSet at hj
    rw [mk_bit, Bool.and_eq_true, decide_eq_true_iff, Bool.and_eq_true, Bool.and_eq_true, decide_eq_true_iff, decide_eq_true_iff] at hj
    exact ⟨(G.1 j).1 2 0, ⟨hj.2.2.1, j, hj.1, hj.2.1, rfl⟩, hj.2.2.2⟩
  · rintro ⟨r, ⟨h8, j, hj, hb, hr⟩, hq⟩ h0
    have : (slSet G sg n s q).testBit j = true := by
      unfold slSet
      rw [mk_bit, Bool.and_eq_true, decide_eq_true_iff, Bool.and_eq_true, Bool.and_eq_true, decide_eq_true_iff, decide_eq_true_iff]
      exact ⟨hj, hb, by rw [hr]; exact h8, by rw [hr]; exact hq⟩
    rw [h0, Nat.zero_testBit] at this
    exact Bool.noConfusion this
/-- the next ring behind one (o: none yet), or none -/
theorem m_nextRing (H : zMV Z S0 ar n w sg u S G) (h : gW n G t l) (ht : t < 2 ^ 20) {s : Nat} {x : Int32} {lo : Nat} (hx : (x = -1 ∧ lo = 0) ∨ ∃ r, useR G n s r ∧ x = nI (sg r) ∧ lo = rkey G r + 1) {Qp : Int32 → zS → Prop} (k0 : (∀ r, useR G n s r → rkey G r < lo) → Qp (-1) S) (k1 : ∀ r, useR G n s r → lo ≤ rkey G r → (∀ r', useR G n s r' → lo ≤ rkey G r' → rkey G r ≤ rkey G r') → Qp (nI (sg r)) S) : w_X7_nextRing Z (ar 0) (nI s) x S Qp := by
  have hn := mV_n H
  have hsl : ∀ r, useR G n s r → sg r < 16 := fun r hu => by
    obtain ⟨h8, j, hj, hb, hr⟩ := hu
    exact (mv_R H hj hr h8).1
  have huq : ∀ r r', useR G n s r → useR G n s r' → sg r = sg r' → r = r' := fun r r' hu hu' e => by
    obtain ⟨h8, j, hj, hb, hr⟩ := hu
    obtain ⟨h8', j', hj', hb', hr'⟩ := hu'
    have := H.2.2.2 j j' hj hj' (by rw [hr]; exact h8) (by rw [hr']; exact h8') (by rw [hr, hr']; exact e)
    rw [hr, hr'] at this
    exact this
  have hne : ∀ q, q < 100 → ¬ nI q = -1 := fun q hq e => nI_pos (n := q) (by omega) (by rw [e]; decide)
  unfold w_X7_nextRing
  refine zlp3 (fun a y S' => S' = S ∧ ∃ m, m ≤ 16 ∧ y = nI m ∧ ((a = -1 ∧ ∀ r, useR G n s r → sg r < m → rkey G r < lo) ∨ ∃ r, useR G n s r ∧ a = nI (sg r) ∧ lo ≤ rkey G r ∧ ∀ r', useR G n s r' → sg r' < m → lo ≤ rkey G r' → rkey G r ≤ rkey G r')) (fun _ y _ => 17 - y.toNatClampNeg) (fun rec a y S' hI hrec => ?_) _ _ S ⟨rfl, 0, by omega, rfl, Or.inl ⟨rfl, fun r _ hr => absurd hr (by omega)⟩⟩
  obtain ⟨rfl, m, hm, rfl, hor⟩ := hI
  unfold wb_X7_nextRing_5
  have hle : ((16 : Int32) ≤ nI m) ↔ 16 ≤ m := nI_leI (a := 16) (by omega) (by omega)
  rw [hle, nI_1]
  refine ⟨fun q => ?_, fun q => ⟨mV_0 H, m_of H (by omega) ?_⟩⟩
  · rcases hor with ⟨rfl, ho⟩ | ⟨r, hu, rfl, hl, ho⟩
    · exact k0 (fun r hr => ho r hr (by have := hsl r hr; omega))
    · exact k1 r hu hl (fun r' hr' => ho r' hr' (by have := hsl r' hr'; omega))
  · have hμ : 17 - (nI (m + 1)).toNatClampNeg < 17 - (nI m).toNatClampNeg := by rw [nI_clamp (by omega), nI_clamp (by omega)]; omega
    have hlt : slSet G sg n s m < 256 := mk_lt8 _ hn.2.2.2.1
    have z0 : (nI (slSet G sg n s m) = 0) ↔ slSet G sg n s m = 0 := nI_eq (by omega) (by omega : 0 < 2 ^ 31)
    rw [z0]
    -- nothing new at slot m
    have hskip : (∀ r, useR G n s r → sg r = m → rkey G r < lo) → rec a (nI (m + 1)) S' := fun hno => by
      refine hrec _ _ _ ⟨rfl, m + 1, by omega, rfl, ?_⟩ hμ
      rcases hor with ⟨ea, ho⟩ | ⟨r, hu, ea, hl, ho⟩
      · refine Or.inl ⟨ea, fun r hr hrm => ?_⟩
        by_cases e : sg r = m
        · exact hno r hr e
        · exact ho r hr (by omega)
      · refine Or.inr ⟨r, hu, ea, hl, fun r' hr' hrm hl' => ?_⟩
        by_cases e : sg r' = m
        · have := hno r' hr' e; omega
        · exact ho r' hr' (by omega) hl'
    refine ⟨fun q0 y e => ?_, fun q0 => ?_⟩
    · subst e
      exact hskip (fun r hr e => absurd q0 ((slSet_use G sg n s m).mpr ⟨r, hr, e⟩))
    · obtain ⟨rm, hum, hsm⟩ := (slSet_use G sg n s m).mp q0
      obtain ⟨hm8, jm, hjm, hbm, hrm⟩ := id hum
      have hun : ∀ r, useR G n s r → sg r = m → r = rm := fun r hr e => huq r rm hr hum (e.trans hsm.symm)
      -- it lies behind
      have h37 : lo ≤ rkey G rm → wJ_X7_nextRing_37 Z Qp (fun (v21 : Int32) (S20 : zS) => Qp v21 S20) rec (ar 0) (nI s) x a (nI m) S' := fun hl => by
        unfold wJ_X7_nextRing_37
        have hnew : (∀ r', useR G n s r' → sg r' < m → lo ≤ rkey G r' → rkey G rm ≤ rkey G r') → rec (nI m) (nI (m + 1)) S' := fun hall => by
          refine hrec _ _ _ ⟨rfl, m + 1, by omega, rfl, Or.inr ⟨rm, hum, by rw [hsm], hl, fun r' hr' hr'm hl' => ?_⟩⟩ hμ
          by_cases e : sg r' = m
          · rw [hun r' hr' e]; exact Nat.le_refl _
          · exact hall r' hr' (by omega) hl'
        rw [nI_1]
        rcases hor with ⟨ea, ho⟩ | ⟨r, hu, ea, hlr, ho⟩
        · subst ea
          refine ⟨fun _ y e => ?_, fun z => absurd rfl z⟩
          subst e
          exact hnew (fun r' hr' hr'm hl' => by have := ho r' hr' hr'm; omega)
        · subst ea
          obtain ⟨h8, jr, hjr, hbr, hrr⟩ := id hu
          refine ⟨fun z => absurd z (hne _ (by have := hsl r hu; omega)), fun _ => ⟨mV_0 H, ?_⟩⟩
          rw [← hsm]
          refine m_isBefore H h ht hjm hjr hrm hrr hm8 h8 ⟨fun q2 y e => ?_, fun q2 y e => ?_⟩
          · subst e
            rw [hsm]
            have hnl : ¬ rkey G rm < rkey G r := fun z => by rw [if_pos z] at q2; exact absurd q2 (by decide)
            refine hrec _ _ _ ⟨rfl, m + 1, by omega, rfl, Or.inr ⟨r, hu, rfl, hlr, fun r' hr' hr'm hl' => ?_⟩⟩ hμ
            by_cases e : sg r' = m
            · rw [hun r' hr' e]; omega
            · exact ho r' hr' (by omega) hl'
          · subst e
            rw [hsm]
            have hnl : rkey G rm < rkey G r := Classical.byContradiction (fun z => by rw [if_neg z] at q2; exact q2 rfl)
            exact hnew (fun r' hr' hr'm hl' => by have := ho r' hr' hr'm hl'; omega)
      rcases hx with ⟨ex, el⟩ | ⟨rb, hub, ex, el⟩
      · subst ex
        exact ⟨fun _ => h37 (by omega), fun z => absurd rfl z⟩
      · subst ex
        obtain ⟨h8, jb, hjb, hbb, hrb⟩ := id hub
        refine ⟨fun z => absurd z (hne _ (by have := hsl rb hub; omega)), fun _ => ?_⟩
        have hB := m_isBefore (Qp := fun (v14 : Int32) (S13 : zS) => ((v14 = 0 → ∀ y15 : Int32, y15 = nI (m + 1) → rec a y15 S13) ∧ (¬ v14 = 0 → wJ_X7_nextRing_37 Z Qp (fun (v21 : Int32) (S20 : zS) => Qp v21 S20) rec (ar 0) (nI s) (nI (sg rb)) a (nI m) S13))) H h ht hjb hjm hrb hrm h8 hm8 ⟨fun q2 y e => ?_, fun q2 => h37 ?_⟩
        · rw [hsm] at hB
          exact hB
        · subst e
          have hnl : ¬ rkey G rb < rkey G rm := fun z => by rw [if_pos z] at q2; exact absurd q2 (by decide)
          exact hskip (fun r hr e => by rw [hun r hr e]; omega)
        · have hnl : rkey G rb < rkey G rm := Classical.byContradiction (fun z => by rw [if_neg z] at q2; exact q2 rfl)
          omega
end
