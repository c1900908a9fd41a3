/-! a new ring: those of a set leave their rings, an unused ring begins, they join it -/
theorem onto_le : ∀ (n k : Nat) (f : Nat → Nat), (∀ r, r < n → ∃ j, j < k ∧ f j = r) → n ≤ k := by
  intro n
  induction n with
  | zero => intro k f _; omega
  | succ n ih =>
    intro k f h
    obtain ⟨j0, hj0, hf0⟩ := h n (by omega)
    obtain ⟨k', rfl⟩ : ∃ k', k = k' + 1 := ⟨k - 1, by omega⟩
    have := ih k' (fun j => if j = j0 then f k' else f j) (fun r hr => by
      obtain ⟨j, hj, hf⟩ := h r (by omega)
      have hne : j ≠ j0 := fun e => by subst e; omega
      by_cases e : j = k'
      · refine ⟨j0, by omega, ?_⟩
        show (if j0 = j0 then f k' else f j0) = r
        rw [if_pos rfl, ← e]; exact hf
      · refine ⟨j, by omega, ?_⟩
        show (if j = j0 then f k' else f j) = r
        rw [if_neg hne]; exact hf)
    omega
theorem unused_ex {n : Nat} (f : Nat → Nat) (h8 : n ≤ 8) {i : Nat} (hi : i < n) (hf : f i = 8) : ∃ r, r < n ∧ ∀ j, j < n → f j ≠ r := by
  refine Classical.byContradiction (fun hno => ?_)
  have hall : ∀ r, r < n → ∃ j, j < n ∧ f j = r := fun r hr => Classical.byContradiction (fun h => hno ⟨r, hr, fun j hj e => h ⟨j, hj, e⟩⟩)
  have := onto_le (n + 1) n (fun j => if f j = 8 then n else f j) (fun r hr => by
    by_cases e : r = n
    · refine ⟨i, hi, ?_⟩
      show (if f i = 8 then n else f i) = r
      rw [if_pos hf, e]
    · obtain ⟨j, hj, h⟩ := hall r (by omega)
      refine ⟨j, hj, ?_⟩
      show (if f j = 8 then n else f j) = r
      rw [if_neg (by omega)]; exact h)
  omega
def hxf (G : gT) (s : Nat) : Nat → Nat
  | 0 => 0
  | q + 1 => if s.testBit q = true ∧ hxf G s q < (G.1 q).1 3 0 then (G.1 q).1 3 0 else hxf G s q
theorem hxf_le {G : gT} {s m : Nat} : ∀ {q : Nat}, (∀ j, j < q → s.testBit j = true → (G.1 j).1 3 0 ≤ m) → hxf G s q ≤ m := by
  intro q
  induction q with
  | zero => intro _; exact Nat.zero_le _
  | succ q ih =>
    intro h
    unfold hxf
    split
    · rename_i c; exact h q (by omega) c.1
    · exact ih (fun j hj => h j (by omega))
theorem hxf_ge {G : gT} {s : Nat} : ∀ {q j : Nat}, j < q → s.testBit j = true → (G.1 j).1 3 0 ≤ hxf G s q := by
  intro q
  induction q with
  | zero => intro j hj; exact absurd hj (by omega)
  | succ q ih =>
    intro j hj hs
    unfold hxf
    by_cases e : j = q
    · subst e
      split
      · exact Nat.le_refl _
      · rename_i c
        exact Nat.le_of_not_lt (fun h => c ⟨hs, h⟩)
    · have := ih (j := j) (by omega) hs
      split
      · rename_i c; omega
      · exact this
def rLv (R : nT) (s q : Nat) : nT := if R.1 2 0 ≠ 0 ∧ R.1 2 0 ≤ q ∧ s.testBit (R.1 2 0 - 1) = true then nsI R 2 0 0 else R
theorem rLv_ne (R : nT) (s q : Nat) {f : Nat} (j : Nat) (h : f ≠ 2) : (rLv R s q).1 f j = R.1 f j := by
  unfold rLv
  split
  · exact n1_ne _ _ _ _ h
  · rfl
theorem rLv_j (R : nT) (s q : Nat) : (rLv R s q).2 = R.2 := by
  unfold rLv
  split <;> rfl
theorem rLv_le (R : nT) (s q : Nat) : (rLv R s q).1 2 0 ≤ R.1 2 0 := by
  unfold rLv
  split
  · rw [n1_eq]; omega
  · exact Nat.le_refl _
def gLv (G : gT) (s q : Nat) : gT := (fun j => if j < q ∧ s.testBit j = true then nLeave (G.1 j) else G.1 j, fun r => rLv (G.2 r) s q)
theorem gLv_0 (G : gT) (s : Nat) : gLv G s 0 = G := by
  refine Prod.ext (funext fun j => ?_) (funext fun r => ?_)
  · show (if j < 0 ∧ s.testBit j = true then nLeave (G.1 j) else G.1 j) = _
    rw [if_neg (fun z => by omega)]
  · show rLv (G.2 r) s 0 = _
    unfold rLv
    rw [if_neg (fun z => by omega)]
theorem gLv_s0 (G : gT) {s q : Nat} (h : s.testBit q = false) : gLv G s (q + 1) = gLv G s q := by
  refine Prod.ext (funext fun j => ?_) (funext fun r => ?_)
  · show (if j < q + 1 ∧ s.testBit j = true then nLeave (G.1 j) else G.1 j) = if j < q ∧ s.testBit j = true then nLeave (G.1 j) else G.1 j
    refine z_ifc2 ⟨fun z => ⟨?_, z.2⟩, fun z => ⟨by omega, z.2⟩⟩
    have : j ≠ q := fun e => by rw [e, h] at z; exact absurd z.2 (by decide)
    omega
  · show rLv (G.2 r) s (q + 1) = rLv (G.2 r) s q
    unfold rLv
    refine z_ifc2 ⟨fun z => ⟨z.1, ?_, z.2.2⟩, fun z => ⟨z.1, by omega, z.2.2⟩⟩
    have : (G.2 r).1 2 0 ≠ q + 1 := fun e => by rw [e, Nat.add_sub_cancel, h] at z; exact absurd z.2.2 (by decide)
    omega
theorem gLv_s1 (G : gT) {s q : Nat} (h : s.testBit q = true) (hh : ∀ r, (G.2 r).1 2 0 = q + 1 → (G.1 q).1 2 0 = r) : gLv G s (q + 1) = gN (gR (gLv G s q) ((G.1 q).1 2 0) (rLeave (rLv (G.2 ((G.1 q).1 2 0)) s q) q)) q (nLeave (G.1 q)) := by
  refine Prod.ext (funext fun j => ?_) (funext fun r => ?_)
  · show (if j < q + 1 ∧ s.testBit j = true then nLeave (G.1 j) else G.1 j) = if j = q then nLeave (G.1 q) else if j < q ∧ s.testBit j = true then nLeave (G.1 j) else G.1 j
    by_cases e : j = q
    · subst e
      rw [if_pos ⟨by omega, h⟩, if_pos rfl]
    · rw [if_neg e]
      exact z_ifc2 ⟨fun z => ⟨by omega, z.2⟩, fun z => ⟨by omega, z.2⟩⟩
  · show rLv (G.2 r) s (q + 1) = if r = (G.1 q).1 2 0 then rLeave (rLv (G.2 ((G.1 q).1 2 0)) s q) q else rLv (G.2 r) s q
    by_cases e1 : (G.2 r).1 2 0 = q + 1
    · have e2 := hh r e1
      rw [if_pos e2.symm, e2]
      have a : rLv (G.2 r) s q = G.2 r := by unfold rLv; rw [if_neg (fun z => by omega)]
      rw [a]
      unfold rLv rLeave
      rw [if_pos ⟨by omega, by omega, by rw [e1, Nat.add_sub_cancel]; exact h⟩, if_pos e1]
    · have a : rLv (G.2 r) s (q + 1) = rLv (G.2 r) s q := by
        unfold rLv
        exact z_ifc2 ⟨fun z => ⟨z.1, by omega, z.2.2⟩, fun z => ⟨z.1, by omega, z.2.2⟩⟩
      rw [a]
      split
      · rename_i e2
        rw [← e2]
        unfold rLeave
        rw [if_neg]
        intro e3
        unfold rLv at e3
        split at e3
        · rw [n1_eq] at e3; omega
        · exact e1 e3
      · rfl
/-- the new ring's record, and the state when it has begun for all of s -/
def rNew (G : gT) (n s r : Nat) : nT := rBegin (rLv (G.2 r) s n) (hxf G s n + 1) s
def gForm (G : gT) (n s r : Nat) (p : Bool) : gT := (fun j => if j < n ∧ s.testBit j = true then nJoin (nLeave (G.1 j)) (rNew G n s r) r p else G.1 j, fun r' => if r' = r then rNew G n s r else rLv (G.2 r') s n)
theorem rNew_0 (G : gT) (n s r : Nat) : (rNew G n s r).1 0 0 = hxf G s n + 1 ∧ (rNew G n s r).1 1 0 = s ∧ (rNew G n s r).1 2 0 = ls s + 1 ∧ (rNew G n s r).1 3 0 = 0 := ⟨rfl, rfl, rfl, rfl⟩
theorem nLeave_16 (N : nT) (j : Nat) : (nLeave N).1 16 j = 0 := rfl
theorem nLeave_ne (N : nT) {f : Nat} (j : Nat) (a : f ≠ 16) (b : f ≠ 2) (c : f ≠ 6) (d : f ≠ 7) : (nLeave N).1 f j = N.1 f j := by
  show (if f = 16 then 0 else if f = 2 ∧ j = 0 then 8 else if (f = 6 ∨ f = 7) ∧ j = 0 then 0 else N.1 f j) = _
  rw [if_neg a, if_neg (fun q => b q.1), if_neg (fun q => by omega)]
section
variable {Z : zZ} {S0 S : zS} {ad : Nat → Nat → Nat} {n w : Nat} {G : gT} {i : Nat} {N : nT}
theorem all_nI {n : Nat} (h : n ≤ 8) : (1 <<< ((nI n) &&& 31) : Int32) - 1 = nI (2 ^ n - 1) := by
  rw [one_shl n (by omega)]
  exact pk_sub (b := 1) Nat.one_le_two_pow
theorem ofSet_0 {G : gT} {n r : Nat} : ofSet G n (2 ^ n - 1) r = 0 ↔ ∀ j, j < n → (G.1 j).1 2 0 ≠ r := by
  constructor
  · intro h j hj e
    have hb : (ofSet G n (2 ^ n - 1) r).testBit j = true := (ofSet_bit _ _ _ _ _).mpr ⟨hj, e, by rw [Nat.testBit_two_pow_sub_one]; exact decide_eq_true hj⟩
    rw [h, Nat.zero_testBit] at hb
    exact Bool.noConfusion hb
  · intro h
    refine Nat.eq_of_testBit_eq (fun j => ?_)
    rw [Nat.zero_testBit]
    refine Bool.eq_false_iff.mpr (fun hb => ?_)
    have := (ofSet_bit _ _ _ _ _).mp hb
    exact h j this.1 this.2.1
theorem c_unused (H : zCV Z S0 ad n w S G) (hx : ∃ r, r < n ∧ ∀ j, j < n → (G.1 j).1 2 0 ≠ r) {Qp : Option Nat → zS → Prop} (k : ∀ r, r < n → (∀ j, j < n → (G.1 j).1 2 0 ≠ r) → Qp (some (ad 12 r)) S) : w_X6_unusedRing Z (ad 0 0) S Qp := by
  obtain ⟨r1, r2, r3, r4⟩ := cv_row H
  have hn := zCV_n H
  have q2 : zQ Z (ad 0 0) 2 = some (ad 2 0) := H.1.1.2.2.1
  obtain ⟨-, -, k13, n13⟩ := H.1.2.1
  have qr : ∀ r, r < n → zQ Z (ad 2 0) r = some (ad 12 r) := fun r hr => (H.1.2.2.1 r hr).2.1
  unfold w_X6_unusedRing
  refine ⟨r1, ad 1 0, r2, r3, fun y5 e5 => ⟨ad 2 0, q2, k13, by rw [n13]; exact vp_in_nI (n := 0) (by omega) (by omega), ad 12 0, qr 0 (by omega), fun y12 e12 => ?_⟩⟩
  rw [r4, all_nI hn.2] at e5
  rw [n13] at e12
  subst e5 e12
  refine zlp3 (fun a x S' => S' = S ∧ ∃ k' c, k' ≤ n ∧ x = nI k' ∧ a = ad 12 c ∧ c < n ∧ ((∀ j, j < n → (G.1 j).1 2 0 ≠ c) ∨ ∀ r, r < k' → ∃ j, j < n ∧ (G.1 j).1 2 0 = r)) (fun _ x _ => 9 - x.toNatClampNeg) (fun rec a x S' hI hrec => ?_) _ _ S ⟨rfl, 0, 0, by omega, rfl, rfl, by omega, Or.inr (fun r hr => absurd hr (by omega))⟩
  obtain ⟨rfl, k', c, hk, rfl, rfl, hc, hor⟩ := hI
  unfold wb_X6_unusedRing_29
  have hle : (nI n ≤ nI k') ↔ n ≤ k' := nI_leI (by omega) (by omega)
  rw [hle, nI_1, nI_clamp (by omega)]
  refine ⟨fun q => ?_, fun q => ⟨k13, by rw [n13]; exact vp_in_nI (by omega) (by omega), ad 12 k', qr k' (by omega), r1, c_ofRing H ?_⟩⟩
  · rcases hor with h | h
    · exact k c hc h
    · obtain ⟨r, hr, hno⟩ := hx
      obtain ⟨j, hj, e⟩ := h r (by omega)
      exact absurd e (hno j hj)
  · have hμ : 9 - (nI (k' + 1)).toNatClampNeg < 9 - (nI k').toNatClampNeg := by rw [nI_clamp (by omega), nI_clamp (by omega)]; omega
    have hlt : ofSet G n (2 ^ n - 1) k' < 256 := mk_lt8 _ hn.2
    have e0 : (nI (ofSet G n (2 ^ n - 1) k') = 0) ↔ ∀ j, j < n → (G.1 j).1 2 0 ≠ k' := (nI_eq (b := 0) (by omega) (by omega)).trans ofSet_0
    rw [e0]
    refine ⟨fun q2 y e => ?_, fun q2 y e => ?_⟩
    · subst e
      refine hrec _ _ _ ⟨rfl, k' + 1, c, by omega, rfl, rfl, hc, ?_⟩ hμ
      rcases hor with h | h
      · exact Or.inl h
      · refine Or.inr (fun r hr => ?_)
        by_cases e : r = k'
        · subst e
          exact Classical.byContradiction (fun z => q2 (fun j hj e => z ⟨j, hj, e⟩))
        · exact h r (by omega)
    · subst e
      exact hrec _ _ _ ⟨rfl, k' + 1, k', by omega, rfl, rfl, by omega, Or.inl q2⟩ hμ
theorem c_form {s : Nat} (H : zCV Z S0 ad n w S G) (hs : s < 2 ^ n) {i : Nat} (hi : i < n) (his : s.testBit i = true) (hh : ∀ r h, h < n → (G.2 r).1 2 0 = h + 1 → (G.1 h).1 2 0 = r) (h2 : ∀ r, (G.2 r).1 2 0 ≤ 8) (h3 : ∀ j, j < n → (G.1 j).1 3 0 < 2 ^ 20) (h10 : ∀ j, j < n → (G.1 j).1 10 0 < 2 ^ 30) {p : Bool} {Qp : Int32 → zS → Prop} (k : ∀ S' r, r < n → (∀ j, j < n → s.testBit j = false → (G.1 j).1 2 0 ≠ r) → zCV Z S0 ad n w S' (gForm G n s r p) → Qp (nI (hxf G s n + 1)) S') : w_X6_beginRing Z (ad 0 0) (nI s) (if p then 1 else 0) S Qp := by
  obtain ⟨r1, r2, r3, r4⟩ := cv_row H
  have hn := zCV_n H
  have q3' : zQ Z (ad 0 0) 3 = some (ad 12 8) := H.1.1.2.2.2
  have hs8 : s < 256 := Nat.lt_of_lt_of_le hs (Nat.pow_le_pow_right (by omega) hn.2)
  have hs0 : s ≠ 0 := fun e => by rw [e, Nat.zero_testBit] at his; exact Bool.noConfusion his
  have hls : ls s < 8 := by have := ls_lt hs hn.2 hs0; omega
  have hhx : ∀ q, q ≤ n → hxf G s q < 2 ^ 20 := fun q hq => by
    have : hxf G s q ≤ 2 ^ 20 - 1 := hxf_le (fun j hj _ => by have := h3 j (by omega); omega)
    omega
  unfold w_X6_beginRing
  refine ⟨r1, ad 1 0, r2, r3, fun y5 e5 => ?_⟩
  rw [r4] at e5
  subst e5
  have H0 : zCV Z S0 ad n w S (gLv G s 0) := by rw [gLv_0]; exact H
  refine zlp3 (fun a x S' => ∃ k', k' ≤ n ∧ x = nI k' ∧ a = nI (hxf G s k') ∧ zCV Z S0 ad n w S' (gLv G s k')) (fun _ x _ => 9 - x.toNatClampNeg) (fun rec a x S' hI hrec => ?_) _ _ S ⟨0, by omega, rfl, rfl, H0⟩
  obtain ⟨k', hk, rfl, rfl, H'⟩ := hI
  unfold wb_X6_beginRing_16
  have hle : (nI n ≤ nI k') ↔ n ≤ k' := nI_leI (by omega) (by omega)
  rw [hle]
  refine ⟨fun q y24 e24 => ?_, fun q => ?_⟩
  · have : k' = n := by omega
    subst this
    rw [nI_1] at e24
    subst e24
    have hring : ∀ j, j < k' → ((gLv G s k').1 j).1 2 0 = if s.testBit j = true then 8 else (G.1 j).1 2 0 := fun j hj => by
      show (if j < k' ∧ s.testBit j = true then nLeave (G.1 j) else G.1 j).1 2 0 = _
      by_cases c : s.testBit j = true
      · rw [if_pos ⟨hj, c⟩, if_pos c]; rfl
      · rw [if_neg (fun z => c z.2), if_neg c]
    refine c_unused H' (unused_ex (fun j => ((gLv G s k').1 j).1 2 0) hn.2 hi (by show ((gLv G s k').1 i).1 2 0 = 8; rw [hring i hi, if_pos his])) (fun r hr hno => ⟨ad 12 r, rfl, (zCV_rg H' (Or.inl hr)).1, c_begin H' (Or.inl hr) hls (fun S30 H30 y31 e31 => ?_)⟩)
    rw [r4] at e31
    subst e31
    have eR : (gLv G s k').2 r = rLv (G.2 r) s k' := rfl
    rw [eR] at H30
    have hno' : ∀ j, j < k' → s.testBit j = false → (G.1 j).1 2 0 ≠ r := fun j hj hjs => by
      have := hno j hj
      rw [hring j hj, if_neg (by rw [hjs]; decide)] at this
      exact this
    have H1 : zCV Z S0 ad k' w S30 (fun j => if j < 0 ∧ s.testBit j = true then nJoin (nLeave (G.1 j)) (rNew G k' s r) r p else (gR (gLv G s k') r (rNew G k' s r)).1 j, (gR (gLv G s k') r (rNew G k' s r)).2) := by rw [gUpd_0]; exact H30
    refine zlp2 (fun y S' => ∃ q', q' ≤ k' ∧ y = nI q' ∧ zCV Z S0 ad k' w S' (fun j => if j < q' ∧ s.testBit j = true then nJoin (nLeave (G.1 j)) (rNew G k' s r) r p else (gR (gLv G s k') r (rNew G k' s r)).1 j, (gR (gLv G s k') r (rNew G k' s r)).2)) (fun y _ => 9 - y.toNatClampNeg) (fun rec y S' hI hrec => ?_) _ S30 ⟨0, by omega, rfl, H1⟩
    obtain ⟨q', hq, rfl, H3⟩ := hI
    unfold wb_X6_beginRing_97
    have hle : (nI k' ≤ nI q') ↔ k' ≤ q' := nI_leI (by omega) (by omega)
    rw [hle]
    refine ⟨fun z => ?_, fun z => ?_⟩
    · have : q' = k' := by omega
      subst this
      refine k S' r hr hno' ?_
      have eF : gForm G q' s r p = (fun j => if j < q' ∧ s.testBit j = true then nJoin (nLeave (G.1 j)) (rNew G q' s r) r p else (gR (gLv G s q') r (rNew G q' s r)).1 j, (gR (gLv G s q') r (rNew G q' s r)).2) := by
        refine Prod.ext (funext fun j => ?_) rfl
        show (if j < q' ∧ s.testBit j = true then _ else G.1 j) = if j < q' ∧ s.testBit j = true then _ else (if j < q' ∧ s.testBit j = true then nLeave (G.1 j) else G.1 j)
        by_cases c : j < q' ∧ s.testBit j = true
        · rw [if_pos c, if_pos c]
        · rw [if_neg c, if_neg c, if_neg c]
      rw [eF]
      exact H3
    · have hq2 : q' < k' := by omega
      obtain ⟨v1, v2, v3⟩ := cv_at H3 hq2
      have c := (cv_g H3 hq2).1
      have hμ : 9 - (nI (q' + 1)).toNatClampNeg < 9 - (nI q').toNatClampNeg := by rw [nI_clamp (by omega), nI_clamp (by omega)]; omega
      rw [nI_1]
      refine ⟨r3, v1, ad 3 q', v2, v3, ?_⟩
      unfold w_X6_isIn
      rw [c.1, isc _ (by omega), bt_nI _ (by omega)]
      refine ⟨fun q3 => ⟨fun _ y e => ?_, fun z => absurd rfl z⟩, fun q3 => ⟨fun z => absurd z (by decide), fun _ => ?_⟩⟩
      · subst e
        refine hrec _ _ ⟨q' + 1, by omega, rfl, ?_⟩ hμ
        rw [gUpd_s0 (G := gR (gLv G s k') r (rNew G k' s r)) _ q3]; exact H3
      · have q4 : s.testBit q' = true := by simpa using q3
        have H4 := cn_0 H3 (i := q')
        have eL : (gR (gLv G s k') r (rNew G k' s r)).1 q' = nLeave (G.1 q') := by
          show (if q' < k' ∧ s.testBit q' = true then nLeave (G.1 q') else G.1 q') = _
          rw [if_pos ⟨hq2, q4⟩]
        rw [gUpd_at (gR (gLv G s k') r (rNew G k' s r)), eL] at H4
        have hb := hhx k' (by omega)
        refine c_join H4 hq2 (Or.inl hr) (fun p hp => rfl) (R := rNew G k' s r) (if_pos rfl) (by rw [(rNew_0 G k' s r).1]; omega) (by rw [(rNew_0 G k' s r).2.1]; omega) (by rw [nLeave_ne _ _ (by omega) (by omega) (by omega) (by omega)]; exact h10 q' hq2) (fun S40 H40 y e => ?_)
        subst e
        have ep : decide ((if p then (1 : Int32) else 0) ≠ 0) = p := by cases p <;> decide
        rw [ep] at H40
        refine hrec _ _ ⟨q' + 1, by omega, rfl, ?_⟩ hμ
        rw [gUpd_s1 (G := gR (gLv G s k') r (rNew G k' s r)) _ q4]; exact H40
  · have hkk : k' < n := by omega
    obtain ⟨v1, v2, v3⟩ := cv_at H' hkk
    have eA : (gLv G s k').1 k' = G.1 k' := by
      show (if k' < k' ∧ s.testBit k' = true then nLeave (G.1 k') else G.1 k') = _
      rw [if_neg (fun z => by omega)]
    have c := (cv_g H' hkk).1
    rw [eA] at c
    have hμ : 9 - (nI (k' + 1)).toNatClampNeg < 9 - (nI k').toNatClampNeg := by rw [nI_clamp (by omega), nI_clamp (by omega)]; omega
    have i3 : zI S' (ad 3 k') 8 = nI ((G.1 k').1 3 0) := c.2 3 (by omega) (by omega)
    rw [nI_1]
    refine ⟨r3, v1, ad 3 k', v2, v3, ?_⟩
    unfold w_X6_isIn
    rw [c.1, isc _ (by omega), bt_nI _ (by omega)]
    refine ⟨fun q3 => ⟨fun _ y e => ?_, fun z => absurd rfl z⟩, fun q3 => ⟨fun z => absurd z (by decide), fun _ y14 e14 => ⟨r1, ad 12 8, q3', ?_⟩⟩⟩
    · subst e
      refine hrec _ _ _ ⟨k' + 1, by omega, rfl, ?_, by rw [gLv_s0 G q3]; exact H'⟩ hμ
      have : hxf G s (k' + 1) = hxf G s k' := if_neg (fun z => by rw [q3] at z; exact absurd z.1 (by decide))
      rw [this]
    · have q4 : s.testBit k' = true := by simpa using q3
      have b3 := h3 k' hkk
      have bm := hhx k' hk
      have hl : (nI (hxf G s k') < nI ((G.1 k').1 3 0)) ↔ hxf G s k' < (G.1 k').1 3 0 := nI_ltI (by omega) (by omega)
      have e14' : y14 = nI (hxf G s (k' + 1)) := by
        rw [e14, i3]
        show _ = nI (if s.testBit k' = true ∧ hxf G s k' < (G.1 k').1 3 0 then (G.1 k').1 3 0 else hxf G s k')
        by_cases z : hxf G s k' < (G.1 k').1 3 0
        · rw [if_pos (hl.mpr z), if_pos ⟨q4, z⟩]
        · rw [if_neg (fun y => z (hl.mp y)), if_neg (fun y => z y.2)]
      subst e14'
      have H4 := cn_0 H' (i := k')
      rw [eA] at H4
      refine c_leave H4 hkk (R := rLv (G.2 ((G.1 k').1 2 0)) s k') rfl (by have := rLv_le (G.2 ((G.1 k').1 2 0)) s k'; have := h2 ((G.1 k').1 2 0); omega) (fun S18 H18 y e => ?_)
      subst e
      refine hrec _ _ _ ⟨k' + 1, by omega, rfl, rfl, ?_⟩ hμ
      rw [gLv_s1 G q4 (fun r e => hh r k' hkk e)]
      exact H18
end
