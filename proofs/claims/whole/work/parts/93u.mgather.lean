/-! the reference's gather -/
section
variable {Z : zZ} {S0 S : zS} {ar : Nat → Nat} {n w : Nat} {sg sg' : Nat → Nat} {u u' : Nat → Nat → Bool} {G : gT} {i : Nat} {N : nT} {r t l : Nat}
theorem hxf_congr {G G' : gT} {s : Nat} (h : ∀ j, (G'.1 j).1 3 0 = (G.1 j).1 3 0) : ∀ q, hxf G' s q = hxf G s q := by
  intro q
  induction q with
  | zero => rfl
  | succ q ih =>
    unfold hxf
    rw [ih, h q]
/-- rings in use of one key are one -/
theorem rkey_inj (h : gW n G t l) (hn : n ≤ 8) {s a b : Nat} (ha : useR G n s a) (hb : useR G n s b) (e : rkey G a = rkey G b) : a = b := by
  obtain ⟨a8, i, hi, -, hia⟩ := ha
  obtain ⟨b8, j, hj, -, hjb⟩ := hb
  have V := h.2.2.2.2.1
  have m1 := V.1 i hi (by rw [hia]; exact a8)
  rw [hia] at m1
  have sa := (h.2.1 a).1.1
  have l0 : (G.2 a).1 1 0 ≠ 0 := fun z => by rw [z, Nat.zero_testBit] at m1; exact Bool.noConfusion m1
  have l1 := ls_lt sa hn l0
  have l2 := ls_le ((G.2 b).1 1 0)
  unfold rkey at e
  have e1 : ls ((G.2 a).1 1 0) = ls ((G.2 b).1 1 0) := by omega
  have e2 : (G.2 a).1 0 0 = (G.2 b).1 0 0 := by omega
  refine Classical.byContradiction (fun hne => ?_)
  have := V.2.2.2.2.2.2.1 i j hi hj (by rw [hia]; exact a8) (by rw [hjb]; exact b8) (by rw [hia, hjb]; exact hne) (by rw [hia, hjb]; exact e2) (ls ((G.2 a).1 1 0))
  rw [hia, hjb] at this
  exact this ⟨ls_bit (by omega), by rw [e1]; exact ls_bit (by omega)⟩
theorem useR_uq (H : zMV Z S0 ar n w sg u S G) {s a b : Nat} (ha : useR G n s a) (hb : useR G n s b) (e : sg a = sg b) : a = b := by
  obtain ⟨h8, j, hj, -, hr⟩ := ha
  obtain ⟨h8', j', hj', -, hr'⟩ := hb
  have := H.2.2.2 j j' hj hj' (by rw [hr]; exact h8) (by rw [hr']; exact h8') (by rw [hr, hr']; exact e)
  rw [hr, hr'] at this
  exact this
theorem useR_16 (H : zMV Z S0 ar n w sg u S G) {s a : Nat} (ha : useR G n s a) : sg a < 16 := by
  obtain ⟨h8, j, hj, -, hr⟩ := ha
  exact (mv_R H hj hr h8).1
/-- those together end their rings -/
theorem m_endOld {s : Nat} (H : zMV Z S0 ar n w sg uZ S G) (h : gW n G t l) (ht : t < 2 ^ 18) (hl : l < 2 ^ 18) (hs : s < 2 ^ n) {x3 : Int32} {Qp : Int32 → zS → Prop} {K : zS → Prop} (k : ∀ S' u', (∀ j, u' 5 j = false) → (∀ j, u' 6 j = true → s.testBit j = true) → zMV Z S0 ar n w sg u' S' (gEnded G n s) → K S') : w_X7_nextRing Z (ar 0) (nI s) (-1) S (fun (v18 : Int32) (S17 : zS) => wL_X7_gather_69 Z (ar 0) (nI s) x3 Qp K v18 S17) := by
  have hn := mV_n H
  have e2 : ∀ D j, ((gEndD G n s D).1 j).1 2 0 = (G.1 j).1 2 0 := fun D j => gEndD_ne _ _ _ _ _ _ (by omega) (by omega) (by omega) (by omega) (by omega) (by omega) (by omega) (by omega)
  have eU : ∀ D r, useR (gEndD G n s D) n s r ↔ useR G n s r := fun D r => by
    unfold useR
    constructor
    · rintro ⟨a, j, hj, hb, he⟩
      exact ⟨a, j, hj, hb, by rw [← he, e2]⟩
    · rintro ⟨a, j, hj, hb, he⟩
      exact ⟨a, j, hj, hb, by rw [← he, e2]⟩
  have eK : ∀ D r, rkey (gEndD G n s D) r = rkey G r := fun D r => rfl
  obtain ⟨kf, hkf⟩ : ∃ kf : Int32 → Nat, ∀ r, useR G n s r → kf (nI (sg r)) = rkey G r := by
    haveI : ∀ x : Int32, Decidable (∃ r, useR G n s r ∧ x = nI (sg r)) := fun x => Classical.propDecidable _
    refine ⟨fun x => if h : ∃ r, useR G n s r ∧ x = nI (sg r) then rkey G (Classical.choose h) else 0, fun r hr => ?_⟩
    have hx : ∃ r', useR G n s r' ∧ nI (sg r) = nI (sg r') := ⟨r, hr, rfl⟩
    have hc := Classical.choose_spec hx
    show (if h : ∃ r', useR G n s r' ∧ nI (sg r) = nI (sg r') then rkey G (Classical.choose h) else 0) = rkey G r
    rw [dif_pos hx]
    have b1 : sg r < 2 ^ 31 := Nat.lt_trans (useR_16 H hr) (by decide)
    have b2 : sg (Classical.choose hx) < 2 ^ 31 := Nat.lt_trans (useR_16 H hc.1) (by decide)
    have : r = Classical.choose hx := useR_uq H hr hc.1 ((nI_eq b1 b2).mp hc.2)
    rw [← this]
  have hne : ∀ q, q < 100 → ¬ nI q = -1 := fun q hq e => nI_pos (n := q) (by omega) (by rw [e]; decide)
  have hkb : ∀ r, rkey G r < 2 ^ 25 := fun r => by
    have := h.2.2.1.2 r
    have := ls_le ((G.2 r).1 1 0)
    unfold rkey
    omega
  -- the loop
  have hloop : ∀ x S', (∃ lo u', zMV Z S0 ar n w sg u' S' (gEndD G n s (fun y => decide (rkey G y < lo))) ∧ (∀ j, u' 5 j = false) ∧ (∀ j, u' 6 j = true → s.testBit j = true ∧ rkey G ((G.1 j).1 2 0) < lo) ∧ ((x = -1 ∧ ∀ r, useR G n s r → rkey G r < lo) ∨ ∃ r, useR G n s r ∧ x = nI (sg r) ∧ lo = rkey G r)) → wL_X7_gather_69 Z (ar 0) (nI s) x3 Qp K x S' := by
    refine fun x S' hI => zlp2 (fun x S' => ∃ lo u', zMV Z S0 ar n w sg u' S' (gEndD G n s (fun y => decide (rkey G y < lo))) ∧ (∀ j, u' 5 j = false) ∧ (∀ j, u' 6 j = true → s.testBit j = true ∧ rkey G ((G.1 j).1 2 0) < lo) ∧ ((x = -1 ∧ ∀ r, useR G n s r → rkey G r < lo) ∨ ∃ r, useR G n s r ∧ x = nI (sg r) ∧ lo = rkey G r)) (fun x _ => if x = -1 then 0 else 2 ^ 25 - kf x) (fun rec x S' hI hrec => ?_) x S' hI
    obtain ⟨lo, u', H', h5, h6, hor⟩ := hI
    unfold wb_X7_gather_69
    rcases hor with ⟨rfl, hall⟩ | ⟨r, hr, rfl, rfl⟩
    · refine ⟨fun _ => k S' u' h5 (fun j z => (h6 j z).1) ?_, fun z => absurd rfl z⟩
      unfold gEnded
      rw [gEndD_ext G (E := fun y => decide (rkey G y < lo)) (fun j hj hjs hj8 => (decide_eq_true (hall _ ⟨hj8, j, hj, hjs, rfl⟩)).symm)]
      exact H'
    · obtain ⟨r8, jr, hjr, hbr, hrr⟩ := id hr
      have hsg := useR_16 H hr
      refine ⟨fun z => absurd z (hne _ (by omega)), fun _ => ⟨mV_0 H, m_of H' hsg ?_⟩⟩
      rw [slSet_of H' hjr (by rw [e2]; exact hrr) r8]
      have hW : gW n (gEndD G n s (fun y => decide (rkey G y < rkey G r))) t (l + 201) := W_endD h
      have eO : ofSet (gEndD G n s (fun y => decide (rkey G y < rkey G r))) n s r = ofSet G n s r := ofSet_congr s r (fun j _ => e2 _ j)
      rw [eO]
      refine m_end (T := ofSet G n s r) H' hW (by omega) (by omega) hjr (by rw [e2]; exact hrr) r8 (mk_lt _ _) (fun j hj hb => by rw [e2]; exact ((ofSet_bit _ _ _ _ _).mp hb).2.1) (fun j hj hb => ?_) (fun S2 H2 => ?_)
      · cases e : u' 6 j
        · rfl
        · have := (h6 j e).2
          rw [((ofSet_bit _ _ _ _ _).mp hb).2.1] at this
          omega
      · rw [gEndD_step G (D := fun y => decide (rkey G y < rkey G r)) r8 (decide_eq_false (Nat.lt_irrefl _))] at H2
        have h5' : ∀ j, uT u' (ofSet G n s r) n 5 j = false := fun j => by rw [uT_5]; exact h5 j
        have h6' : ∀ j, uT u' (ofSet G n s r) n 6 j = true → s.testBit j = true ∧ rkey G ((G.1 j).1 2 0) ≤ rkey G r := fun j z => by
          unfold uT at z
          split at z
          · rename_i y
            have := (ofSet_bit _ _ _ _ _).mp y.2.1
            exact ⟨this.2.2, by rw [this.2.1]; exact Nat.le_refl _⟩
          · have := h6 j z
            exact ⟨this.1, by omega⟩
        have hW2 : gW n (gEndD G n s (fun y => decide (rkey G y < rkey G r) || decide (y = r))) t (l + 201) := W_endD h
        have hx : ∀ lo, rkey G r < lo → (∀ r', useR G n s r' → rkey G r < rkey G r' → lo ≤ rkey G r') → zMV Z S0 ar n w sg (uT u' (ofSet G n s r) n) S2 (gEndD G n s (fun y => decide (rkey G y < lo))) := fun lo h1 h2 => by
          rw [gEndD_ext G (E := fun y => decide (rkey G y < rkey G r) || decide (y = r)) (fun j hj hjs hj8 => ?_)]
          · exact H2
          · have hu : useR G n s ((G.1 j).1 2 0) := ⟨hj8, j, hj, hjs, rfl⟩
            by_cases c1 : rkey G ((G.1 j).1 2 0) < rkey G r
            · rw [decide_eq_true c1, decide_eq_true (by omega)]; rfl
            · rw [decide_eq_false c1]
              by_cases c2 : (G.1 j).1 2 0 = r
              · rw [decide_eq_true c2, c2, decide_eq_true h1]; rfl
              · rw [decide_eq_false c2]
                have c3 : rkey G r < rkey G ((G.1 j).1 2 0) := by
                  have : rkey G ((G.1 j).1 2 0) ≠ rkey G r := fun z => c2 (rkey_inj h hn.2.2.2.1 hu hr z)
                  omega
                have := h2 _ hu c3
                rw [decide_eq_false (by omega)]; rfl
        refine m_nextRing H2 hW2 (by omega) (Or.inr ⟨r, (eU _ r).mpr hr, rfl, rfl⟩) (fun hall => ?_) (fun r' hr' hl' hmin => ?_)
        · refine hrec _ _ ⟨rkey G r + 1, _, hx _ (by omega) (fun r' hr' hlt => by have := hall r' ((eU _ r').mpr hr'); rw [eK, eK] at this; omega), h5', fun j z => ⟨(h6' j z).1, by have := (h6' j z).2; omega⟩, Or.inl ⟨rfl, fun r' hr' => by have := hall r' ((eU _ r').mpr hr'); rw [eK, eK] at this; exact this⟩⟩ ?_
          rw [if_pos rfl, if_neg (hne _ (by omega)), hkf r hr]
          have := hkb r
          omega
        · have hr2 := (eU _ r').mp hr'
          rw [eK, eK] at hl'
          refine hrec _ _ ⟨rkey G r', _, hx _ (by omega) (fun r2 hr2 hlt => by have := hmin r2 ((eU _ r2).mpr hr2) (by rw [eK, eK]; omega); rw [eK, eK] at this; omega), h5', fun j z => ⟨(h6' j z).1, by have := (h6' j z).2; omega⟩, Or.inr ⟨r', hr2, rfl, rfl⟩⟩ ?_
          rw [if_neg (hne _ (by have := useR_16 H hr2; omega)), if_neg (hne _ (by omega)), hkf r hr, hkf r' hr2]
          have := hkb r'
          omega
  have hx0 : ∀ lo, (∀ r', useR G n s r' → lo ≤ rkey G r') → zMV Z S0 ar n w sg uZ S (gEndD G n s (fun y => decide (rkey G y < lo))) := fun lo h2 => by
    rw [gEndD_ext G (E := fun _ => false) (fun j hj hjs hj8 => decide_eq_false (by have := h2 _ ⟨hj8, j, hj, hjs, rfl⟩; omega)), gEndD_0 _ _ _ (fun _ => rfl)]
    exact H
  refine m_nextRing H h (by omega) (Or.inl ⟨rfl, rfl⟩) (fun hall => ?_) (fun r hr _ hmin => ?_)
  · exact hloop _ _ ⟨0, uZ, hx0 0 (fun r' _ => by omega), fun _ => rfl, fun j z => absurd z Bool.false_ne_true, Or.inl ⟨rfl, fun r' hr' => hall r' hr'⟩⟩
  · exact hloop _ _ ⟨rkey G r, uZ, hx0 _ (fun r' hr' => hmin r' hr' (by omega)), fun _ => rfl, fun j z => absurd z Bool.false_ne_true, Or.inr ⟨r, hr, rfl, rfl⟩⟩
end
