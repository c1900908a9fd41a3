/-! the reference ends a ring -/
theorem dlf_end (R : nT) (t : Nat) : ∀ (k : Nat) (g : Bool) (N : nT), (∀ p, 100 - k < p → p ≤ 100 → k ≤ 100 → N.1 16 p = 0) → k ≤ 100 → dlf R t k g N = N := by
  intro k
  induction k with
  | zero => intro g N _ _; rfl
  | succ k ih =>
    intro g N h hk
    unfold dlf
    rw [if_pos (h (100 - k) (by omega) (by omega) hk)]
    exact ih true N (fun p h1 h2 _ => h p (by omega) h2 hk) (by omega)
def uT (u : Nat → Nat → Bool) (T m : Nat) : Nat → Nat → Bool := fun k j => if k = 6 ∧ T.testBit j = true ∧ j < m then true else u k j
theorem uT_5 (u : Nat → Nat → Bool) (T m : Nat) : uT u T m 5 = u 5 := funext fun j => if_neg (fun z => by omega)
theorem uT_0 (u : Nat → Nat → Bool) (T : Nat) : uT u T 0 = u := by
  funext k j
  exact if_neg (fun z => by omega)
theorem uT_s0 (u : Nat → Nat → Bool) {T m : Nat} (h : T.testBit m = false) : uT u T (m + 1) = uT u T m := by
  funext k j
  unfold uT
  refine z_ifc2 ⟨fun z => ⟨z.1, z.2.1, ?_⟩, fun z => ⟨z.1, z.2.1, by omega⟩⟩
  have : j ≠ m := fun e => by rw [e, h] at z; exact absurd z.2.1 (by decide)
  omega
theorem uT_s1 (u : Nat → Nat → Bool) {T m : Nat} (h : T.testBit m = true) : uT u T (m + 1) = uOn (uT u T m) m := by
  funext k j
  unfold uT uOn
  by_cases e : k = 6 ∧ j = m
  · rw [if_pos e, if_pos ⟨e.1, by rw [e.2]; exact h, by omega⟩]
  · rw [if_neg e]
    exact z_ifc2 ⟨fun z => ⟨z.1, z.2.1, by omega⟩, fun z => ⟨z.1, z.2.1, by omega⟩⟩
section
variable {Z : zZ} {S0 S : zS} {ar : Nat → Nat} {n w : Nat} {sg : Nat → Nat} {u u' : Nat → Nat → Bool} {G : gT} {i : Nat} {N : nT} {r t l : Nat}
/-- what is left is told -/
theorem m_left {T : Nat} {x3 : Int32} (H : zMV Z S0 ar n w sg u S (gN G i N)) (hu : u 6 i = true) (hi : i < n) (h8 : N.1 2 0 ≠ 8) {R : nT} (hR : G.2 (N.1 2 0) = R) (hok : rOk R) (hnum : 1 ≤ R.1 0 0) (h4 : N.1 4 0 < 2 ^ 30) (h6 : N.1 6 0 ≤ 100) (h10 : N.1 10 0 < 2 ^ 21) (h8' : N.1 8 0 < 2 ^ 21) (h100 : R.1 3 0 ≤ 100) (hz : ∀ p, p < 101 → R.1 3 0 < p → N.1 16 p = 0) {Qp K : zS → Prop} (k : ∀ S', zMV Z S0 ar n w sg u S' (gN G i (dlf R T (100 - N.1 6 0) false N)) → K S') : wL_X7_end_207 Z (ar 0) (nI (sg (N.1 2 0))) (nI T) x3 (nI i) Qp K 0 (nI (N.1 6 0 + 1)) S := by
  have hn := mV_n H
  refine zlp3 (fun y x S' => ∃ k' g N', k' ≤ 100 ∧ x = nI (101 - k') ∧ y = (if g = true then 1 else 0) ∧ zMV Z S0 ar n w sg u S' (gN G i N') ∧ dlf R T k' g N' = dlf R T (100 - N.1 6 0) false N ∧ N'.1 2 0 = N.1 2 0 ∧ N'.1 4 0 = N.1 4 0 ∧ N'.1 8 0 = N.1 8 0 ∧ (∀ p, N'.1 16 p = N.1 16 p) ∧ N'.1 10 0 + k' < 2 ^ 22) (fun _ x _ => 102 - x.toNatClampNeg) (fun rec y x S' hI hrec => ?_) 0 _ S ⟨100 - N.1 6 0, false, N, by omega, by congr 1; omega, rfl, H, rfl, rfl, rfl, rfl, fun _ => rfl, by omega⟩
  obtain ⟨k', g, N', hk, rfl, rfl, H', hd, g2, g4, g8, g16, g10⟩ := hI
  obtain ⟨s1, s5, s24, s28, sp⟩ := mv_pl (R := R) H' hi (by rw [g2]; exact h8) (by rw [g2]; exact hR)
  rw [g2] at s1 s5 s24 s28 sp
  have hsl := mv_ins H (k := 28) (j := sg (N.1 2 0)) (m := 16) (by omega) (by omega) rfl (by omega) s1
  have hle : (nI (R.1 3 0) < nI (101 - k')) ↔ R.1 3 0 < 101 - k' := nI_ltI (by omega) (by omega)
  unfold wb_X7_end_207
  refine ⟨mV_0 H, ar 28, mq_28 H, mkk_28 H, hsl.1, ?_⟩
  rw [hsl.2, s28, hle]
  refine ⟨fun q => k S' ?_, fun q => ?_⟩
  · rw [← hd, dlf_end R T k' g N' (fun p p1 p2 _ => by rw [g16]; exact hz p (by omega) (by omega)) hk]
    exact H'
  · obtain ⟨j, rfl⟩ : ∃ j, k' = j + 1 := ⟨k' - 1, by omega⟩
    have e3 : 101 - (j + 1) = 100 - j := by omega
    rw [e3]
    have hp1 : 1 ≤ 100 - j := by omega
    have hp2 : 100 - j ≤ R.1 3 0 := by omega
    have hx : nI (100 - j) + 1 = nI (101 - j) := by rw [nI_1]; congr 1; omega
    have hμ : 102 - (nI (101 - j)).toNatClampNeg < 102 - (nI (101 - (j + 1))).toNatClampNeg := by rw [nI_clamp (by omega), nI_clamp (by omega)]; omega
    have hdd : dlf R T (j + 1) g N' = if N'.1 16 (100 - j) = 0 then dlf R T j true N' else if g = false ∨ T.testBit (R.1 6 (100 - j)) = true then dlf R T j g (nTellM N' (R.1 0 0) (100 - j) (R.1 6 (100 - j)) (R.1 7 (100 - j)) (R.2 6 (100 - j))) else dlf R T j g N' := rfl
    obtain ⟨p29, -, -, -, -⟩ := sp (100 - j) hp1 hp2
    obtain ⟨o6, o7, o8⟩ := hok.2 (100 - j) (by omega)
    obtain ⟨v29, c29⟩ := mv_ins H (k := 29) (j := 101 * sg (N.1 2 0) + (100 - j)) (m := 1616) (by omega) (by omega) rfl (by omega) (by omega)
    -- it is told
    have htell : (g = false ∨ T.testBit (R.1 6 (100 - j)) = true) → N'.1 16 (100 - j) ≠ 0 → wJ_X7_end_273 Z Qp K rec (ar 0) (nI (sg (N.1 2 0))) (nI T) x3 (nI i) (if g = true then 1 else 0) (nI (100 - j)) S' := fun ho h16 => by
      unfold wJ_X7_end_273
      refine ⟨mV_0 H, m_del (R := R) (may := false) H' hu hi (by rw [g2]; exact h8) (by rw [g2]; exact hR) hok hnum (by omega) (by omega) (by omega) hp1 hp2 h100 (fun S74 H74 y e => ?_)⟩
      rw [if_neg (by decide)] at H74
      rw [hx] at e
      subst e
      refine hrec _ _ _ ⟨j, g, _, by omega, rfl, rfl, H74, ?_, ?_, ?_, ?_, fun p => ?_, ?_⟩ hμ
      · rw [← hd, hdd, if_neg h16, if_pos ho]
      · rw [nTellM_ne _ _ _ _ _ _ _ (by omega) (by omega)]; exact g2
      · rw [nTellM_ne _ _ _ _ _ _ _ (by omega) (by omega)]; exact g4
      · rw [nTellM_ne _ _ _ _ _ _ _ (by omega) (by omega)]; exact g8
      · rw [nTellM_ne _ _ _ _ _ _ _ (by omega) (by omega)]; exact g16 p
      · rw [nTellM_10]; omega
    -- the gap as it is now
    have h243 : ∀ (b : Bool), (b = true ↔ N'.1 16 (100 - j) ≠ 0) → ∀ t0, t0 = (if (g || !b) = true then (1 : Int32) else 0) → wJ_X7_end_243 Z Qp K rec (ar 0) (nI (sg (N.1 2 0))) (nI T) x3 (nI i) (nI (100 - j)) (if b = true then 1 else 0) t0 S' := fun b hb t0 ht0 => by
      subst ht0
      unfold wJ_X7_end_243
      refine ⟨fun q2 y e => ?_, fun q2 => ?_⟩
      · have hbf := z01_if.mp q2
        have h16 : N'.1 16 (100 - j) = 0 := Classical.byContradiction (fun z => by rw [hb.mpr z] at hbf; exact Bool.noConfusion hbf)
        rw [hx] at e
        subst e
        rw [hbf]
        refine hrec _ _ _ ⟨j, true, N', by omega, rfl, by simp, H', ?_, g2, g4, g8, g16, by omega⟩ hμ
        rw [← hd, hdd, if_pos h16]
      · have hbt : b = true := Classical.byContradiction (fun z => by rw [if_neg z] at q2; exact q2 rfl)
        have h16 := hb.mp hbt
        have eg : (g || !b) = g := by rw [hbt]; simp
        rw [eg]
        refine ⟨fun q3 => htell (Or.inl (z01_if.mp q3)) h16, fun q3 => ⟨mV_0 H, ar 29, mq_29 H, m_place ⟨mkk_29 H, v29, ?_⟩⟩⟩
        rw [c29, p29]
        refine m_isIn (by omega) ?_
        rw [bt_nI _ (by omega)]
        refine ⟨fun q4 y e => ?_, fun q4 => htell (Or.inr ?_) h16⟩
        · rw [hx] at e
          subst e
          refine hrec _ _ _ ⟨j, g, N', by omega, rfl, rfl, H', ?_, g2, g4, g8, g16, by omega⟩ hμ
          have hgt : g = true := Classical.byContradiction (fun z => by rw [if_neg z] at q3; exact q3 rfl)
          rw [← hd, hdd, if_neg h16, if_neg]
          rintro (z | z)
          · rw [hgt] at z; exact Bool.noConfusion z
          · rw [z01_if.mp q4] at z; exact Bool.noConfusion z
        · exact Classical.byContradiction (fun z => by rw [if_neg z] at q4; exact q4 rfl)
    refine m_has (R := R) H' hi (by rw [g2]; exact h8) (by rw [g2]; exact hR) hp1 hp2 h100 ?_
    have hbb : (if N'.1 16 (100 - j) ≠ 0 then (1 : Int32) else 0) = if decide (N'.1 16 (100 - j) ≠ 0) = true then 1 else 0 := by
      by_cases c : N'.1 16 (100 - j) ≠ 0
      · rw [if_pos c, if_pos (decide_eq_true c)]
      · rw [if_neg c, if_neg (fun z => c (decide_eq_true_iff.mp z))]
    rw [hbb]
    have h243 := h243 (decide (N'.1 16 (100 - j) ≠ 0)) decide_eq_true_iff
    generalize decide (N'.1 16 (100 - j) ≠ 0) = b at *
    unfold wJ_X7_end_238
    refine ⟨fun q2 => h243 1 ?_, fun q2 => ⟨fun q3 => h243 0 ?_, fun q3 => h243 1 ?_⟩⟩
    · have hgt : g = true := Classical.byContradiction (fun z => by rw [if_neg z] at q2; exact q2 rfl)
      rw [hgt]; rfl
    · have hbt : b = true := Classical.byContradiction (fun z => by rw [if_neg z] at q3; exact q3 rfl)
      rw [z01_if.mp q2, hbt]; rfl
    · rw [z01_if.mp q3]
      simp
/-- a node's end in its ring -/
theorem m_endT {T : Nat} {x3 : Int32} (H : zMV Z S0 ar n w sg u S (gN G i N)) (hu : u 6 i = false) (hi : i < n) (h8 : N.1 2 0 ≠ 8) {R : nT} (hR : G.2 (N.1 2 0) = R) (hok : rOk R) (hnum : 1 ≤ R.1 0 0) (h4 : N.1 4 0 < 2 ^ 30) (h6 : N.1 6 0 ≤ 100) (h7 : N.1 7 0 ≤ 100) (h10 : N.1 10 0 < 2 ^ 20) (h8' : N.1 8 0 < 2 ^ 20) (h100 : R.1 3 0 ≤ 100) (hT : T < 2 ^ 30) (hz : ∀ p, p < 101 → R.1 3 0 < p → N.1 16 p = 0) {Qp K : zS → Prop} (k : ∀ S', zMV Z S0 ar n w sg (uOn u i) S' (gN G i (nEndT N R T)) → K S') : w_X7_deliverAll Z (ar 0) (nI i) S (fun (v54 : Int32) (S53 : zS) => ∃ b55, zQ Z (ar 0) 24 = some b55 ∧ zk Z b55 8 ∧ vp_in (nI (sg (N.1 2 0))) (zN Z b55) ∧ w_X7_tell Z (ar 0) (nI i) 2 ((nI T : Int32).toInt64) 0 0 0 ((zI S53 b55 (nI (sg (N.1 2 0))).toNatClampNeg : Int32).toInt64) S53 (fun (S59 : zS) => ∃ b60, zQ Z (ar 0) 16 = some b60 ∧ zk Z b60 8 ∧ vp_in (nI i) (zN Z b60) ∧ ∀ y64 : Int32, y64 = (zI S59 b60 (nI i).toNatClampNeg) + 1 → wL_X7_end_207 Z (ar 0) (nI (sg (N.1 2 0))) (nI T) x3 (nI i) Qp K 0 y64 S59)) := by
  refine m_dlv H hu hi h8 hR hok hnum h4 h6 h7 h10 h8' h100 hz (fun S53 H53 => ?_)
  obtain ⟨a10, a8, aff⟩ := dlv_facts R (100 - N.1 6 0) N
  have a6 := dlv_6 R (100 - N.1 6 0) N (by omega) (by omega)
  have a2 := aff 2 0 (by omega) (by omega) (by omega) (by omega)
  have a4 := aff 4 0 (by omega) (by omega) (by omega) (by omega)
  have hkk : ∀ S', zMV Z S0 ar n w sg (uOn u i) S' (gN G i (dlf R T (100 - (dlv R (100 - N.1 6 0) N).1 6 0) false (nTell (dlv R (100 - N.1 6 0) N) (lN 2) (lN T) (lN 0) (lN 0) 0 (lN (R.1 0 0))))) → K S' := k
  have a16 : ∀ p, (dlv R (100 - N.1 6 0) N).1 16 p = N.1 16 p := fun p => aff 16 p (by omega) (by omega) (by omega) (by omega)
  generalize dlv R (100 - N.1 6 0) N = D at *
  obtain ⟨g1, -, g24, -, -⟩ := mv_pl (R := R) H53 hi (by rw [a2]; exact h8) (by rw [a2]; exact hR)
  rw [a2] at g1 g24
  obtain ⟨v24, c24⟩ := mv_ins H (k := 24) (j := sg (N.1 2 0)) (m := 16) (by omega) (by omega) rfl (by omega) g1
  obtain ⟨v16, c16⟩ := mv_in8 H (k := 16) (by omega) (by omega) rfl hi
  have hr0 := hok.1
  refine ⟨ar 24, mq_24 H, mkk_24 H, v24, ?_⟩
  rw [c24, g24, nI_l (by omega), nI_l (by omega)]
  refine m_tell H53 hi (by omega) (fun S59 H59 => ⟨ar 16, mq_16 H, mkk_16 H, v16, fun y64 e64 => ?_⟩)
  have hN : nTell D 2 (lN T) 0 0 0 (lN (R.1 0 0)) = nTell D (lN 2) (lN T) (lN 0) (lN 0) 0 (lN (R.1 0 0)) := rfl
  rw [hN] at H59
  have b2 : (nTell D (lN 2) (lN T) (lN 0) (lN 0) 0 (lN (R.1 0 0))).1 2 0 = N.1 2 0 := by rw [nTell_ne _ _ _ _ _ _ _ _ (by omega)]; exact a2
  have b6 : (nTell D (lN 2) (lN T) (lN 0) (lN 0) 0 (lN (R.1 0 0))).1 6 0 = D.1 6 0 := nTell_ne _ _ _ _ _ _ _ _ (by omega)
  have e16 : zI S59 (ar 16) i = nI (D.1 6 0) := (mv_F H59 hi 6 (by omega) (by omega) (fun _ => hu) (fun _ => by rw [b2]; exact h8)).trans (by rw [b6])
  rw [c16, e16, nI_1] at e64
  subst e64
  have Hh := ms_hide H59 (u' := uOn u i) (fun j h => by rw [uOn_5] at h; exact h) (fun j h => uOn_f h)
  have := m_left (T := T) (x3 := x3) (Qp := Qp) (K := K) (R := R) Hh (uOn_t u i) hi (by rw [b2]; exact h8) (by rw [b2]; exact hR) hok hnum (by rw [nTell_ne _ _ _ _ _ _ _ _ (by omega), a4]; exact h4) (by rw [b6]; exact a6.2) (by rw [nTell_10]; omega) (by rw [nTell_ne _ _ _ _ _ _ _ _ (by omega)]; omega) h100 (fun p p1 p2 => by rw [nTell_ne _ _ _ _ _ _ _ _ (by omega), a16]; exact hz p p1 p2) (fun S' H' => hkk S' (by rw [b6] at H'; exact H'))
  rw [b2, b6] at this
  exact this
end
