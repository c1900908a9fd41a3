/-! the reference's new ring, first parts: its number, a free slot; pieces of a joiner's step -/
theorem nI_sur (x : Int32) : nI x.toBitVec.toNat = x := by
  apply Int32.toBitVec_inj.1
  show BitVec.ofNat 32 x.toBitVec.toNat = x.toBitVec
  exact BitVec.ofNat_toNat _ _ |>.trans (by simp)
section
variable {Z : zZ} {S0 S : zS} {ar : Nat → Nat} {n w : Nat} {sg : Nat → Nat} {u u' : Nat → Nat → Bool} {G : gT} {i : Nat} {N : nT} {r t l : Nat} {A A' : Nat → Nat → Int32} {B : Nat → Nat → Int64}
theorem mC_show (H : mC n w sg u A B G) (h5 : ∀ j, j < n → u' 5 j = false → u 5 j = false) (h6 : ∀ j, j < n → u' 6 j = false → u 6 j = false) : mC n w sg u' A B G := by
  obtain ⟨h1, h2, h3⟩ := H
  refine ⟨h1, fun j hj => ?_, h3⟩
  obtain ⟨⟨a1, a2, a3, a4⟩, b, c, d⟩ := h2 j hj
  refine ⟨⟨fun f hf hf2 hf6 hf7 => a1 f hf hf2 (fun e => h6 j hj (hf6 e)) hf7, a2, a3, a4⟩, b, c, fun h8 => ?_⟩
  obtain ⟨c1, c2, c3, c4, c5, c6, c7⟩ := d h8
  refine ⟨c1, c2, c3, c4, c5, c6, fun m hm hu => c7 m hm (fun z => hu ⟨?_, z.2⟩)⟩
  cases e : u' 5 m
  · have := h5 m hm e
    rw [this] at z; exact absurd z.1 (by decide)
  · rfl
/-- a slot of no ring in use -/
def freeS (n : Nat) (sg : Nat → Nat) (G : gT) (q : Nat) : Prop := ∀ j, j < n → (G.1 j).1 2 0 ≠ 8 → sg ((G.1 j).1 2 0) ≠ q
theorem m_freeSlot (H : zMV Z S0 ar n w sg u S G) {Qp : Int32 → zS → Prop} (k : ∀ q, q < 16 → freeS n sg G q → Qp (nI q) S) : w_X7_freeSlot Z (ar 0) S Qp := by
  have hn := mV_n H
  unfold w_X7_freeSlot
  refine zlp2 (fun x S' => S' = S ∧ ∃ q, x = nI q ∧ ∀ y, y < q → ∃ j, j < n ∧ (G.1 j).1 2 0 ≠ 8 ∧ sg ((G.1 j).1 2 0) = y) (fun x _ => 20 - x.toNatClampNeg) (fun rec x S' hI hrec => ?_) _ S ⟨rfl, 0, rfl, fun y hy => absurd hy (by omega)⟩
  obtain ⟨rfl, q, rfl, hall⟩ := hI
  have hle : ∀ q, (∀ y, y < q → ∃ j, j < n ∧ (G.1 j).1 2 0 ≠ 8 ∧ sg ((G.1 j).1 2 0) = y) → q ≤ n := fun q hq => onto_le q n (fun j => sg ((G.1 j).1 2 0)) (fun y hy => by
    obtain ⟨j, hj, -, e⟩ := hq y hy
    exact ⟨j, hj, e⟩)
  have hqn := hle q hall
  unfold wb_X7_freeSlot_2
  refine ⟨mV_0 H, ?_⟩
  rw [hn.1, all_nI hn.2.2.2.1]
  refine m_of H (by omega) ?_
  have hlt : slSet G sg n (2 ^ n - 1) q < 256 := mk_lt8 _ hn.2.2.2.1
  have z0 : (nI (slSet G sg n (2 ^ n - 1) q) = 0) ↔ slSet G sg n (2 ^ n - 1) q = 0 := nI_eq (by omega) (by omega : 0 < 2 ^ 31)
  have hall1 : ∀ j, j < n → (2 ^ n - 1).testBit j = true := fun j hj => by rw [Nat.testBit_two_pow_sub_one]; exact decide_eq_true hj
  rw [z0]
  refine ⟨fun q0 => k q (by omega) (fun j hj h8 es => ?_), fun q0 y e => ?_⟩
  · exact absurd q0 ((slSet_use G sg n (2 ^ n - 1) q).mpr ⟨_, ⟨h8, j, hj, hall1 j hj, rfl⟩, es⟩)
  · rw [nI_1] at e
    subst e
    obtain ⟨r, ⟨h8, j, hj, -, hr⟩, hs⟩ := (slSet_use G sg n (2 ^ n - 1) q).mp q0
    have hnew : ∀ y, y < q + 1 → ∃ j, j < n ∧ (G.1 j).1 2 0 ≠ 8 ∧ sg ((G.1 j).1 2 0) = y := fun y hy => by
      rcases Nat.lt_succ_iff_lt_or_eq.mp hy with e | e
      · exact hall y e
      · exact ⟨j, hj, by rw [hr]; exact h8, by rw [hr, e]; exact hs⟩
    have := hle (q + 1) hnew
    refine hrec _ _ ⟨rfl, q + 1, rfl, hnew⟩ ?_
    rw [nI_clamp (by omega), nI_clamp (by omega)]
    omega
theorem m_number (H : zMV Z S0 ar n w sg u S G) {s : Nat} {p1 : Int32} (b3 : ∀ j, j < n → (G.1 j).1 3 0 < 2 ^ 20) {Qp : Int32 → zS → Prop} {K : Int32 → zS → Prop} (k : K (nI (hxf G s n)) S) : wL_X7_form_5 Z (ar 0) (nI s) p1 Qp K 0 0 S := by
  have hn := mV_n H
  have hhx : ∀ q, q ≤ n → hxf G s q < 2 ^ 20 := fun q hq => by
    have : hxf G s q ≤ 2 ^ 20 - 1 := hxf_le (fun j hj _ => by have := b3 j (by omega); omega)
    omega
  refine zlp3 (fun a x S' => S' = S ∧ ∃ m, m ≤ n ∧ x = nI m ∧ a = nI (hxf G s m)) (fun _ x _ => 9 - x.toNatClampNeg) (fun rec a x S' hI hrec => ?_) _ _ S ⟨rfl, 0, by omega, rfl, rfl⟩
  obtain ⟨rfl, m, hm, rfl, rfl⟩ := hI
  unfold wb_X7_form_5
  have hle : (nI n ≤ nI m) ↔ n ≤ m := nI_leI (by omega) (by omega)
  rw [hn.1, hle, nI_1]
  refine ⟨mV_0 H, fun q => ?_, fun q => ?_⟩
  · have : m = n := by omega
    subst this
    exact k
  · have hmn : m < n := by omega
    have hμ : 9 - (nI (m + 1)).toNatClampNeg < 9 - (nI m).toNatClampNeg := by rw [nI_clamp (by omega), nI_clamp (by omega)]; omega
    have hd : hxf G s (m + 1) = if s.testBit m = true ∧ hxf G s m < (G.1 m).1 3 0 then (G.1 m).1 3 0 else hxf G s m := rfl
    have a6 : zI S' (ar 6) m = nI ((G.1 m).1 3 0) := mv_F (mn_0 H (i := m)) hmn 3 (by omega) (by omega) (by omega) (by omega)
    have zl : (nI ((G.1 m).1 3 0) ≤ nI (hxf G s m)) ↔ (G.1 m).1 3 0 ≤ hxf G s m := nI_leI (by have := b3 m hmn; omega) (by have := hhx m (by omega); omega)
    refine m_isIn (by omega) ?_
    rw [bt_nI _ (by omega)]
    refine ⟨fun q3 y e => ?_, fun q3 => ⟨ar 6, mq_6 H, mkk_6 H, (mv_in8 H (k := 6) (by omega) (by omega) rfl hmn).1, ?_⟩⟩
    · subst e
      refine hrec _ _ _ ⟨rfl, m + 1, by omega, rfl, ?_⟩ hμ
      rw [hd, if_neg (fun z => by rw [z01_if.mp q3] at z; exact absurd z.1 (by decide))]
    · have hmb : s.testBit m = true := Classical.byContradiction (fun z => by rw [if_neg z] at q3; exact q3 rfl)
      rw [(mv_in8 H (k := 6) (by omega) (by omega) rfl hmn).2, a6, zl]
      refine ⟨fun q4 y e => ?_, fun q4 y10 e10 y e => ?_⟩
      · subst e
        refine hrec _ _ _ ⟨rfl, m + 1, by omega, rfl, ?_⟩ hμ
        rw [hd, if_neg (fun z => by omega)]
      · subst e
        refine hrec _ _ _ ⟨rfl, m + 1, by omega, rfl, ?_⟩ hμ
        rw [hd, if_pos ⟨hmb, by omega⟩, e10]
/-- nothing is kept any more -/
theorem m_forget (H : zMV Z S0 ar n w sg u S (gN G i N)) (hi : i < n) {Qp : zS → Prop} (k : ∀ S', zMV Z S0 ar n w sg u S' (gN G i (nForget N 101)) → Qp S') : w_X7_forget Z (ar 0) (nI i) S Qp := by
  have hn := mV_n H
  obtain ⟨v22, c22⟩ := mv_in8 H (k := 22) (by omega) (by omega) rfl hi
  unfold w_X7_forget
  refine ⟨mV_0 H, ar 22, mq_22 H, mkk_22 H, v22, fun S6 e6 => ?_⟩
  rw [c22] at e6
  have H6 := ms_F H 9 (by omega) (by omega) (v := 0) (by omega)
  have e6' : S6 = zsI S (ar (mA 9)) i (nI 0) := e6
  rw [← e6'] at H6
  have e3 : nsI N 9 0 0 = nForget N 0 := by
    refine Prod.ext (funext fun f => funext fun j => ?_) rfl
    show (if f = 9 ∧ j = 0 then 0 else N.1 f j) = if f = 14 ∧ j < 0 then 0 else if f = 9 ∧ j = 0 then 0 else N.1 f j
    rw [if_neg (c := f = 14 ∧ j < 0) (fun q => by omega)]
  rw [e3] at H6
  refine zlp2 (fun x S' => ∃ k', k' ≤ 101 ∧ x = nI k' ∧ zMV Z S0 ar n w sg u S' (gN G i (nForget N k'))) (fun x _ => 102 - x.toNatClampNeg) (fun rec x S' hI hrec => ?_) _ S6 ⟨0, by omega, rfl, H6⟩
  obtain ⟨k', hk, rfl, H'⟩ := hI
  unfold wb_X7_forget_9
  have hle : (100 : Int32) < nI k' ↔ 100 < k' := nI_ltI (a := 100) (by omega) (by omega)
  rw [hle, nI_1, pl_nI]
  refine ⟨fun q => ?_, fun q => ⟨mV_0 H, ar 19, mq_19 H, mkk_19 H, (mv_ins H (k := 19) (j := 101 * i + k') (m := 808) (by omega) (by omega) rfl (by omega) (by omega)).1, fun S12 e12 y e => ?_⟩⟩
  · have : k' = 101 := by omega
    subst this
    exact k S' H'
  · subst e
    rw [(mv_ins H (k := 19) (j := 101 * i + k') (m := 808) (by omega) (by omega) rfl (by omega) (by omega)).2] at e12
    have H8 := ms_K0 H' (p := k') (by omega)
    rw [← e12] at H8
    have e4 : nsI (nForget N k') 14 k' 0 = nForget N (k' + 1) := by
      refine Prod.ext (funext fun f => funext fun j => ?_) rfl
      show (if f = 14 ∧ j = k' then 0 else if f = 14 ∧ j < k' then 0 else if f = 9 ∧ j = 0 then 0 else N.1 f j) = if f = 14 ∧ j < k' + 1 then 0 else if f = 9 ∧ j = 0 then 0 else N.1 f j
      by_cases h1 : f = 14 ∧ j = k'
      · rw [if_pos h1, if_pos (by omega)]
      · rw [if_neg h1]
        by_cases h2 : f = 14 ∧ j < k'
        · rw [if_pos h2, if_pos (by omega)]
        · rw [if_neg h2, if_neg (c := f = 14 ∧ j < k' + 1) (by omega)]
    rw [e4] at H8
    refine hrec _ _ ⟨k' + 1, by omega, rfl, H8⟩ ?_
    rw [nI_clamp (by omega), nI_clamp (by omega)]
    omega
/-- a slot's raw cells: a new ring of s, of number num -/
def mQ (A : Nat → Nat → Int32) (n q num s : Nat) (R' : nT) : Prop := A 24 q = nI num ∧ A 25 q = nI s ∧ A 26 q = nI 0 ∧ A 27 q = nI (ls s) ∧ A 28 q = nI 0 ∧ ∀ j, j < n → A 35 (8 * q + j) = nI (R'.1 5 j)
def rIs (R' : nT) (num s : Nat) : Prop := R'.1 0 0 = num ∧ R'.1 1 0 = s ∧ R'.1 2 0 = ls s + 1 ∧ R'.1 3 0 = 0
theorem mRg_10 {q num s : Nat} {R' : nT} (hq : q < 16) (hsg : sg 10 = q) (h : mQ A n q num s R') (hR : G.2 10 = R') (hi : rIs R' num s) (hl : ls s < n) (hlb : s.testBit (ls s) = true) (hl10 : (G.1 (ls s)).1 2 0 = 10) : mRg A B n sg u G 10 := by
  obtain ⟨a1, a2, a3, a4, a5, a6⟩ := h
  obtain ⟨r0, r1, r2, r3⟩ := hi
  unfold mRg
  rw [hR, hsg, r0, r1, r2, r3]
  refine ⟨hq, a1, a2, a5, ⟨0, ls s, a3, by omega, a4, hl, hlb, ?_⟩, fun p p1 p2 => absurd p2 (by omega), fun j hj _ => a6 j hj⟩
  rw [if_pos ⟨rfl, hl10⟩]
theorem mQ_of {q num s : Nat} {R' : nT} (hsg : sg 10 = q) (h : mRg A B n sg u G 10) (hu : ∀ j, j < n → u 5 j = false) (hR : G.2 10 = R') (hi : rIs R' num s) : mQ A n q num s R' := by
  obtain ⟨a1, a2, a3, a4, ⟨lo, tk, b1, b2, b3, b4, b5, b6⟩, a6, a7⟩ := h
  obtain ⟨r0, r1, r2, r3⟩ := hi
  rw [hR, r0] at a2
  rw [hR, r1] at a3
  rw [hR, r3] at a4
  rw [hR, r2] at b6
  rw [hsg] at a2 a3 a4 b1 b3
  have hlt : lo = 0 ∧ tk = ls s := by
    split at b6
    · rename_i z; exact ⟨z.1, by omega⟩
    · omega
  refine ⟨a2, a3, by rw [b1, hlt.1], by rw [b3, hlt.2], a4, fun j hj => ?_⟩
  have := a7 j hj (fun z => by rw [hu j hj] at z; exact absurd z.1 (by decide))
  rw [hsg, hR] at this
  exact this
end
