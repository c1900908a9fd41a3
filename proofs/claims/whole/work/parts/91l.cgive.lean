/-! a message is given to those of a set -/
theorem z_ifc2 {α : Type} {c d : Prop} [Decidable c] [Decidable d] {x y : α} (h : c ↔ d) : (if c then x else y) = if d then x else y := z_ifc h rfl
def gGive (G : gT) (P : Nat → Bool) (r p q : Nat) : gT := (fun j => if j < q ∧ P j = true then nRecv (G.1 j) (G.2 r) p else G.1 j, G.2)
theorem gGive_0 (G : gT) (P : Nat → Bool) (r p : Nat) : gGive G P r p 0 = G := by
  refine Prod.ext (funext fun j => ?_) rfl
  show (if j < 0 ∧ P j = true then nRecv (G.1 j) (G.2 r) p else G.1 j) = _
  rw [if_neg (fun q => by omega)]
theorem gGive_s0 (G : gT) {P : Nat → Bool} (r p : Nat) {q : Nat} (h : P q = false) : gGive G P r p (q + 1) = gGive G P r p q := by
  refine Prod.ext (funext fun j => ?_) rfl
  show (if j < q + 1 ∧ P j = true then nRecv (G.1 j) (G.2 r) p else G.1 j) = if j < q ∧ P j = true then nRecv (G.1 j) (G.2 r) p else G.1 j
  by_cases e : j = q
  · subst e
    rw [if_neg (fun z => by rw [h] at z; exact absurd z.2 (by decide)), if_neg (fun z => by omega)]
  · exact z_ifc2 ⟨fun z => ⟨by omega, z.2⟩, fun z => ⟨by omega, z.2⟩⟩
theorem gGive_s1 (G : gT) {P : Nat → Bool} (r p : Nat) {q : Nat} (h : P q = true) : gGive G P r p (q + 1) = gN (gGive G P r p q) q (nRecv (G.1 q) (G.2 r) p) := by
  refine Prod.ext (funext fun j => ?_) rfl
  show (if j < q + 1 ∧ P j = true then nRecv (G.1 j) (G.2 r) p else G.1 j) = if j = q then nRecv (G.1 q) (G.2 r) p else if j < q ∧ P j = true then nRecv (G.1 j) (G.2 r) p else G.1 j
  by_cases e : j = q
  · subst e
    rw [if_pos ⟨by omega, h⟩, if_pos rfl]
  · rw [if_neg e]
    exact z_ifc2 ⟨fun z => ⟨by omega, z.2⟩, fun z => ⟨by omega, z.2⟩⟩
section
variable {Z : zZ} {S0 S : zS} {ad : Nat → Nat → Nat} {n w : Nat} {G : gT} {i : Nat} {N : nT}
theorem c_give (H : zCV Z S0 ad n w S G) {x : Int32} {P : Nat → Bool} (hP : ∀ j, j < n → bt x j = P j) {r : Nat} (hr : ∀ j, j < n → P j = true → (G.1 j).1 2 0 = r) (hok : rOk (G.2 r)) (h4 : ∀ j, j < n → (G.1 j).1 4 0 < 2 ^ 30) {p b : Nat} (hp : p < 101) (hm : zMg Z S b ((G.2 r).1 6 p) ((G.2 r).1 7 p) ((G.2 r).2 6 p) ((G.2 r).1 8 p)) {Qp : zS → Prop} (k : ∀ S', zCV Z S0 ad n w S' (gGive G P r p n) → Qp S') : w_X6_giveTo Z (ad 0 0) x (nI p) b S Qp := by
  obtain ⟨r1, r2, r3, r4⟩ := cv_row H
  have hn := (zCV_n H).2
  obtain ⟨o1, o2⟩ := hok
  obtain ⟨o6, o7, o8⟩ := o2 p hp
  unfold w_X6_giveTo
  refine ⟨r1, ad 1 0, r2, r3, fun y5 e5 => ?_⟩
  rw [r4] at e5
  subst e5
  have H0 : zCV Z S0 ad n w S (gGive G P r p 0) := by rw [gGive_0]; exact H
  refine zlp2 (fun y S' => ∃ k', k' ≤ n ∧ y = nI k' ∧ zCV Z S0 ad n w S' (gGive G P r p k')) (fun y _ => 9 - y.toNatClampNeg) (fun rec y S' hI hrec => ?_) _ S ⟨0, by omega, rfl, H0⟩
  obtain ⟨k', hk, rfl, H'⟩ := hI
  unfold wb_X6_giveTo_14
  have hle : (nI n ≤ nI k') ↔ n ≤ k' := nI_leI (by omega) (by omega)
  rw [hle]
  refine ⟨fun q => ?_, fun q => ?_⟩
  · have : k' = n := by omega
    subst this
    exact k S' H'
  · obtain ⟨v1, v2, v3⟩ := cv_at H' (k := k') (by omega)
    have c := (cv_g H' (j := k') (by omega)).1
    have hμ : 9 - (nI (k' + 1)).toNatClampNeg < 9 - (nI k').toNatClampNeg := by rw [nI_clamp (by omega), nI_clamp (by omega)]; omega
    rw [nI_1]
    refine ⟨r3, v1, ad 3 k', v2, v3, ?_⟩
    unfold w_X6_isIn
    rw [c.1, isc _ (by omega), hP k' (by omega)]
    refine ⟨fun q3 => ⟨fun _ y e => ?_, fun z => absurd rfl z⟩, fun q3 => ⟨fun z => absurd z (by decide), fun _ => ?_⟩⟩
    · subst e
      exact hrec _ _ ⟨k' + 1, by omega, rfl, by rw [gGive_s0 G r p q3]; exact H'⟩ hμ
    · have q4 : P k' = true := by simpa using q3
      have hrr := hr k' (by omega) q4
      have eG : (gGive G P r p k').1 k' = G.1 k' := by
        show (if k' < k' ∧ P k' = true then nRecv (G.1 k') (G.2 r) p else G.1 k') = _
        rw [if_neg (fun z => by omega)]
      have H1 := cn_0 H' (i := k')
      rw [eG] at H1
      refine c_recv H1 (by omega) (R := G.2 r) (by rw [hrr]; rfl) (by omega) (h4 k' (by omega)) hp (by omega) (zMg_mv H H' hm) (fun S'' H'' y e => ?_)
      subst e
      exact hrec _ _ ⟨k' + 1, by omega, rfl, by rw [gGive_s1 G r p q4]; exact H''⟩ hμ
end
