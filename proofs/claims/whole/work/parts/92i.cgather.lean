/-! the class's gather -/
def gTabIf (G : gT) (n s b : Nat) (p : Bool) : gT := if p = true then gTab G n s b else G
def gGather (G : gT) (n s b r : Nat) (p : Bool) : gT := gForm (gTabIf (gEnded G n s) n s b p) n s r p
theorem upSet_bit (G : gT) (n g j : Nat) : (upSet G n g).testBit j = true ↔ j < n ∧ (G.1 j).1 0 0 ≠ 0 ∧ (G.1 j).1 1 0 = g := by
  unfold upSet
  rw [mk_bit, Bool.and_eq_true, decide_eq_true_iff, Bool.and_eq_true, decide_eq_true_iff, decide_eq_true_iff]
section
variable {Z : zZ} {S0 S : zS} {ad : Nat → Nat → Nat} {n w : Nat} {G : gT} {t l : Nat}
theorem gTabIf_ne (G : gT) (n s b : Nat) (p : Bool) (j : Nat) {f : Nat} (x : Nat) (h8 : f ≠ 8) (h9 : f ≠ 9) : ((gTabIf G n s b p).1 j).1 f x = (G.1 j).1 f x := by
  unfold gTabIf
  split
  · exact gTab_ne _ _ _ _ _ _ h8 h9
  · rfl
theorem gEnded_2 (G : gT) (n s j f : Nat) (hf : f < 6) : ((gEnded G n s).1 j).1 f 0 = (G.1 j).1 f 0 := gEndD_ne _ _ _ _ _ _ (by omega) (by omega) (by omega) (by omega) (by omega) (by omega) (by omega) (by omega)
theorem W_tabIf {s b : Nat} {p : Bool} (h : gW n G t l) (hb : b < n) : gW n (gTabIf G n s b p) t (l + 100) := by
  unfold gTabIf
  split
  · exact W_tab h hb
  · exact gW_mono h (Nat.le_refl _) (by omega)
theorem kept_lt {s v p : Nat} (h : gW n G t l) : ∀ k, k ≤ n → ∀ x, kpf G n s v p k = some x → x.1 < 16 := by
  intro k
  induction k with
  | zero => intro _ x hx; exact absurd hx (by simp [kpf])
  | succ k ih =>
    intro hk x hx
    unfold kpf at hx
    by_cases c : kcond G s v p (n - (k + 1)) = true
    · rw [if_pos c] at hx
      rw [← Option.some.inj hx]
      unfold kcond at c
      rw [Bool.and_eq_true, Bool.and_eq_true, decide_eq_true_iff, decide_eq_true_iff] at c
      exact (((h.1 _ (by omega)).2.2.2 p).2 c.2.2).1
    · rw [if_neg c] at hx
      exact ih (by omega) x hx
theorem isFore_max {s b : Nat} (h : isFore G n s b) : ∀ j, j < n → s.testBit j = true → (G.1 j).1 4 0 ≤ (G.1 b).1 4 0 := fun j hj hs => by
  have a := h.2.2 j hj hs
  rw [ahead_iff] at a
  omega
/-- gathering keeps what holds -/
theorem W_gather {s b c r : Nat} {p : Bool} (h : gW n G t l) (hn : n ≤ 8) (hs : s < 2 ^ n) (hr : r < n) (hup : ∀ j, j < n → s.testBit j = true → (G.1 j).1 0 0 ≠ 0) (hno : ∀ j, j < n → s.testBit j = false → (G.1 j).1 2 0 ≠ r) (hc : isFore G n s c) (hb : b < n) (hp : p = quor s ((G.1 c).1 5 0)) : gW n (gGather G n s b r p) (t + 1) (l + 302) := by
  have e0 : ∀ j f, f < 6 → ((gTabIf (gEnded G n s) n s b p).1 j).1 f 0 = (G.1 j).1 f 0 := fun j f hf => by rw [gTabIf_ne _ _ _ _ _ _ _ (by omega) (by omega), gEnded_2 _ _ _ _ _ hf]
  have h2 : gW n (gTabIf (gEnded G n s) n s b p) t (l + 301) := W_tabIf (W_ended h) hb
  refine W_form h2 hn hs hr hc.1 hc.2.1 (fun j hj hjs => ?_) (fun j hj hjs => ?_) (fun j hj hjs => ?_) (fun hpt => ?_)
  · rw [e0 j 0 (by omega)]; exact hup j hj hjs
  · rw [e0 j 2 (by omega)]; exact hno j hj hjs
  · rw [e0 j 4 (by omega), e0 c 4 (by omega)]; exact isFore_max hc j hj hjs
  · rw [e0 c 5 (by omega), ← hp]; exact hpt
theorem c_gatherAll (H : zCV Z S0 ad n w S G) (h : gW n G t l) (ht : t < 2 ^ 18) (hl : l < 2 ^ 18) {x : Int32} {Qp : Int32 → zS → Prop} {Xp : String → zS → Prop} (k0 : ∀ i, i < n → x = nI i → (G.1 i).1 0 0 ≠ 0 → whole? G n ((G.1 i).1 2 0) (upSet G n ((G.1 i).1 1 0)) = true → Qp 0 S) (k1 : ∀ i c b r, i < n → x = nI i → (G.1 i).1 0 0 ≠ 0 → whole? G n ((G.1 i).1 2 0) (upSet G n ((G.1 i).1 1 0)) = false → isFore G n (upSet G n ((G.1 i).1 1 0)) c → b < n → (quor (upSet G n ((G.1 i).1 1 0)) ((G.1 c).1 5 0) = true → isFore (gEnded G n (upSet G n ((G.1 i).1 1 0))) n (upSet G n ((G.1 i).1 1 0)) b) → r < n → (∀ j, j < n → (upSet G n ((G.1 i).1 1 0)).testBit j = false → (G.1 j).1 2 0 ≠ r) → ∀ S', zCV Z S0 ad n w S' (gGather G n (upSet G n ((G.1 i).1 1 0)) b r (quor (upSet G n ((G.1 i).1 1 0)) ((G.1 c).1 5 0))) → Qp (nI (hxf G (upSet G n ((G.1 i).1 1 0)) n + 1)) S') (k2 : ∀ i, i < n → x = nI i → (G.1 i).1 0 0 = 0 → Xp "java/lang/IllegalStateException" S) (k3 : (x < 0 ∨ nI n ≤ x) → Xp "java/lang/IndexOutOfBoundsException" S) : w_X6_gather Z (ad 0 0) x S Qp Xp := by
  have hn := zCV_n H
  obtain ⟨r1, r2, r3, r4⟩ := cv_row H
  unfold w_X6_gather
  refine ⟨r1, c_nodeAt H (fun i hi hx => ?_) k3⟩
  subst hx
  have k0 := k0 i hi rfl
  have k1 := fun c b r => k1 i c b r hi rfl
  have k2 := k2 i hi rfl
  obtain ⟨⟨d1, d2, d3, d4, d5⟩, -, -, -, -⟩ := zCV_nd H hi
  obtain ⟨bd1, bd2, bd3⟩ := W_bd h (by omega) (by omega)
  have c := (cv_g H hi).1
  have i0 : zI S (ad 3 i) 5 = nI ((G.1 i).1 0 0) := c.2 0 (by omega) (by omega)
  have i1 : zI S (ad 3 i) 6 = nI ((G.1 i).1 1 0) := c.2 1 (by omega) (by omega)
  have e0 : (nI ((G.1 i).1 0 0) = 0) ↔ (G.1 i).1 0 0 = 0 := nI_eq (by have := bd1 i hi; omega) (by omega : 0 < 2 ^ 31)
  have hri := (H.2.2.1 i hi).2
  have hrg := (cv_g H hi).2.1
  unfold cnR at hrg
  have hsb := fun j => upSet_bit G n ((G.1 i).1 1 0) j
  generalize hs : upSet G n ((G.1 i).1 1 0) = s at *
  have hsn : s < 2 ^ n := hs ▸ mk_lt _ _
  have hs8 : s < 256 := Nat.lt_of_lt_of_le hsn (Nat.pow_le_pow_right (by omega) hn.2)
  refine ⟨ad 3 i, rfl, d1, ?_⟩
  rw [i0, e0]
  refine ⟨fun hu => ?_, k2⟩
  have his : s.testBit i = true := (hsb i).mpr ⟨hi, hu, rfl⟩
  rw [i1]
  refine c_upIn H (by have := (bd1 i hi).2; omega) bd1 ?_
  rw [hs]
  have hmem := (h.2.1 ((G.1 i).1 2 0)).1
  refine ⟨_, hrg, c_whole H hri hs8 (Nat.lt_of_lt_of_le hmem.1 (Nat.pow_le_pow_right (by omega) hn.2)) (by omega) ⟨fun q => ?_, fun q => k0 hu (z01_t q)⟩⟩
  have hwf := z01_f q
  refine c_fore H hi his (fun j hj => ⟨bd2 j hj, by have := (h.2.2.1.1 j hj).2.2.1; omega⟩) (fun c hc => ⟨ad 3 c, rfl, (zCV_nd H hc.1).1.1, ?_⟩)
  have i5 : zI S (ad 3 c) 10 = nI ((G.1 c).1 5 0) := (cv_g H hc.1).1.2 5 (by omega) (by omega)
  have h5 := (h.1 c hc.1).1.2.2.2
  rw [i5]
  refine c_quor (Nat.lt_of_lt_of_le h5.1 (Nat.pow_le_pow_right (by omega) hn.2)) (by have := ls_lt h5.1 hn.2 h5.2; omega) ?_
  have hW1 : gW n (gEnded G n s) t (l + 201) := W_ended h
  have heok : eOk n G := ⟨fun j hj => by
    have a := (h.1 j hj).2.1
    have b := h.2.2.1.1 j hj
    exact ⟨by omega, a.1, a.2.1, by omega, by omega⟩, fun j hj h8 => bd3 _⟩
  have e2 : ∀ j f, f < 6 → ((gEnded G n s).1 j).1 f 0 = (G.1 j).1 f 0 := fun j f hf => gEnded_2 _ _ _ _ _ hf
  refine c_endOld H hs8 heok (fun S20 H20 => ?_)
  have hfin : ∀ b p S28, b < n → (p = true → isFore (gEnded G n s) n s b) → p = quor s ((G.1 c).1 5 0) → zCV Z S0 ad n w S28 (gTabIf (gEnded G n s) n s b p) → wJ_X6_gather_82 Z Qp Xp (ad 0 0) (nI s) (if p then 1 else 0) S28 := fun b p S28 hb hbf hp H28 => by
    have hW2 := W_tabIf (s := s) (p := p) hW1 hb
    have e3 : ∀ j f, f < 6 → ((gTabIf (gEnded G n s) n s b p).1 j).1 f 0 = (G.1 j).1 f 0 := fun j f hf => by rw [gTabIf_ne _ _ _ _ _ _ _ (by omega) (by omega), e2 j f hf]
    have ehx : ∀ q, hxf (gTabIf (gEnded G n s) n s b p) s q = hxf G s q := by
      intro q
      induction q with
      | zero => rfl
      | succ q ih =>
        unfold hxf
        rw [ih, e3 q 3 (by omega)]
    unfold wJ_X6_gather_82
    refine ⟨r1, c_form H28 hsn hi his hW2.2.2.2.1.2.2.1 (fun r => by have := (hW2.2.1 r).1.2.1; omega) (fun j hj => by have := (hW2.2.2.1.1 j hj).1; omega) (fun j hj => by have := (hW2.2.2.1.1 j hj).2.2.2; omega) (fun S' r hr hno H' => ?_)⟩
    rw [ehx]
    have := k1 c b r hu hwf hc hb (fun z => hbf (hp.trans z)) hr (fun j hj hjs => by have := hno j hj hjs; rw [e3 j 2 (by omega)] at this; exact this) S'
    rw [← hp] at this
    exact this H'
  refine ⟨fun q2 => ?_, fun q2 => ?_⟩
  · have hpf := z01_f q2
    rw [q2]
    exact hfin i false S20 hi (fun z => absurd z (by decide)) hpf.symm H20
  · have hpt := z01_t q2
    refine c_fore H20 hi his (fun j hj => ⟨by rw [e2 j 4 (by omega)]; exact bd2 j hj, by have := (hW1.2.2.1.1 j hj).2.2.1; omega⟩) (fun b hb => ⟨ad 3 b, rfl, ?_⟩)
    have hb9 := (hW1.1 b hb.1).2.1.2.2.1
    have hb8 := (hW1.2.2.1.1 b hb.1).2.2.1
    refine c_tab H20 hb.1 (fun j hj => by rw [e2 j 4 (by omega)]; exact bd2 j hj) (by omega) hb9 (fun p x hp hx => kept_lt hW1 n (by omega) x hx) (fun S28 H28 => ?_)
    have := hfin b true S28 hb.1 (fun _ => hb) hpt.symm (by unfold gTabIf; rw [if_pos rfl]; exact H28)
    rw [hpt]
    exact this
end
