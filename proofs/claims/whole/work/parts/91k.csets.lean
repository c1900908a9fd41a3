/-! sets of nodes: who is up in a group, who is of a ring, whom a node reaches -/
theorem z01_t {b : Bool} (h : ¬ (if b then (1 : Int32) else 0) = 0) : b = true := by
  cases b
  · exact absurd rfl h
  · rfl
theorem z01_f {b : Bool} (h : (if b then (1 : Int32) else 0) = 0) : b = false := by
  cases b
  · rfl
  · exact absurd h (by decide)
section
variable {Z : zZ} {S0 S : zS} {ad : Nat → Nat → Nat} {n w : Nat} {G : gT} {i : Nat} {N : nT}
theorem cv_row (H : zCV Z S0 ad n w S G) : zk Z (ad 0 0) 6 ∧ zQ Z (ad 0 0) 1 = some (ad 1 0) ∧ zk Z (ad 1 0) 12 ∧ zN Z (ad 1 0) = n := ⟨H.1.1.1, H.1.1.2.1, H.1.2.1.1, H.1.2.1.2.1⟩
theorem cv_at (H : zCV Z S0 ad n w S G) {k : Nat} (hk : k < n) : vp_in (nI k) (zN Z (ad 1 0)) ∧ zQ Z (ad 1 0) (nI k).toNatClampNeg = some (ad 3 k) ∧ zk Z (ad 3 k) 2 := by
  have hn := (zCV_n H).2
  rw [(cv_row H).2.2.2, nI_clamp (by omega)]
  exact ⟨vp_in_nI hk (by omega), (H.1.2.2.1 k hk).1, (zCV_nd H hk).1.1⟩
/-- those who are up in group g -/
def upSet (G : gT) (n g : Nat) : Nat := mk (fun j => decide ((G.1 j).1 0 0 ≠ 0) && decide ((G.1 j).1 1 0 = g)) n
theorem c_upIn (H : zCV Z S0 ad n w S G) {g : Nat} (hg : g < 2 ^ 30) (b : ∀ j, j < n → (G.1 j).1 0 0 < 2 ^ 30 ∧ (G.1 j).1 1 0 < 2 ^ 30) {Qp : Int32 → zS → Prop} (k : Qp (nI (upSet G n g)) S) : w_X6_upInGroup Z (ad 0 0) (nI g) S Qp := by
  obtain ⟨r1, r2, r3, r4⟩ := cv_row H
  have hn := (zCV_n H).2
  unfold w_X6_upInGroup
  refine ⟨r1, ad 1 0, r2, r3, fun y5 e5 => ?_⟩
  rw [r4] at e5
  subst e5
  refine zlp3 (fun a x S' => S' = S ∧ ∃ k', k' ≤ n ∧ x = nI k' ∧ a = nI (mk (fun j => decide ((G.1 j).1 0 0 ≠ 0) && decide ((G.1 j).1 1 0 = g)) k')) (fun _ x _ => 9 - x.toNatClampNeg) (fun rec a x S' hI hrec => ?_) _ _ S ⟨rfl, 0, by omega, rfl, rfl⟩
  obtain ⟨rfl, k', hk, rfl, rfl⟩ := hI
  unfold wb_X6_upInGroup_14
  have hle : (nI n ≤ nI k') ↔ n ≤ k' := nI_leI (by omega) (by omega)
  rw [hle]
  refine ⟨fun q => ?_, fun q => ?_⟩
  · have : k' = n := by omega
    subst this
    exact k
  · obtain ⟨v1, v2, v3⟩ := cv_at H (k := k') (by omega)
    have c := (cv_g H (j := k') (by omega)).1
    have j0 : zI S' (ad 3 k') 5 = nI ((G.1 k').1 0 0) := c.2 0 (by omega) (by omega)
    have j1 : zI S' (ad 3 k') 6 = nI ((G.1 k').1 1 0) := c.2 1 (by omega) (by omega)
    obtain ⟨b0, b1⟩ := b k' (by omega)
    have e0 : (nI ((G.1 k').1 0 0) = 0) ↔ (G.1 k').1 0 0 = 0 := nI_eq (by omega) (by omega : 0 < 2 ^ 31)
    have e1 : (nI ((G.1 k').1 1 0) = nI g) ↔ (G.1 k').1 1 0 = g := nI_eq (by omega) (by omega)
    have hμ : 9 - (nI (k' + 1)).toNatClampNeg < 9 - (nI k').toNatClampNeg := by rw [nI_clamp (by omega), nI_clamp (by omega)]; omega
    rw [nI_1]
    refine ⟨r3, v1, ad 3 k', v2, v3, ?_⟩
    rw [j0, j1, c.1, e0, e1]
    refine ⟨fun q2 y e => ?_, fun q2 => ⟨fun q3 y e => ?_, fun q3 y e y2 e2 => ?_⟩⟩
    · subst e
      exact hrec _ _ _ ⟨rfl, k' + 1, by omega, rfl, congrArg nI (mk_s0 (by simp [q2])).symm⟩ hμ
    · subst e
      exact hrec _ _ _ ⟨rfl, k' + 1, by omega, rfl, congrArg nI (mk_s0 (by simp [q3])).symm⟩ hμ
    · subst e2
      exact hrec _ _ _ ⟨rfl, k' + 1, by omega, rfl, e.trans (mk_s1 (by omega) (by simp [q2, q3]))⟩ hμ
/-- those of a set that are of ring r -/
def ofSet (G : gT) (n s r : Nat) : Nat := mk (fun j => decide ((G.1 j).1 2 0 = r) && s.testBit j) n
theorem c_ofRing (H : zCV Z S0 ad n w S G) {r s : Nat} {Qp : Int32 → zS → Prop} (k : Qp (nI (ofSet G n s r)) S) : w_X6_ofRing Z (ad 0 0) (ad 12 r) (nI s) S Qp := by
  obtain ⟨r1, r2, r3, r4⟩ := cv_row H
  have hn := (zCV_n H).2
  unfold w_X6_ofRing
  refine ⟨r1, ad 1 0, r2, r3, fun y5 e5 => ?_⟩
  rw [r4] at e5
  subst e5
  refine zlp3 (fun a x S' => S' = S ∧ ∃ k', k' ≤ n ∧ x = nI k' ∧ a = nI (mk (fun j => decide ((G.1 j).1 2 0 = r) && s.testBit j) k')) (fun _ x _ => 9 - x.toNatClampNeg) (fun rec a x S' hI hrec => ?_) _ _ S ⟨rfl, 0, by omega, rfl, rfl⟩
  obtain ⟨rfl, k', hk, rfl, rfl⟩ := hI
  unfold wb_X6_ofRing_16
  have hle : (nI n ≤ nI k') ↔ n ≤ k' := nI_leI (by omega) (by omega)
  rw [hle]
  refine ⟨fun q => ?_, fun q => ?_⟩
  · have : k' = n := by omega
    subst this
    exact k
  · obtain ⟨v1, v2, v3⟩ := cv_at H (k := k') (by omega)
    have c := cv_g H (j := k') (by omega)
    have e1 : (some (ad 12 ((G.1 k').1 2 0)) = some (ad 12 r)) ↔ (G.1 k').1 2 0 = r := ⟨fun q => ((zCV_inj H).mp (Option.some.inj q)).2, fun q => by rw [q]⟩
    have hμ : 9 - (nI (k' + 1)).toNatClampNeg < 9 - (nI k').toNatClampNeg := by rw [nI_clamp (by omega), nI_clamp (by omega)]; omega
    rw [nI_1]
    refine ⟨r3, v1, ad 3 k', v2, v3, _, c.2.1, ?_⟩
    unfold w_X6_isIn
    rw [c.1.1, e1, isc _ (by omega), bt_nI _ (by omega)]
    refine ⟨fun q2 y e => ?_, fun q2 => ⟨fun q3 => ⟨fun _ y e => ?_, fun z => absurd rfl z⟩, fun q3 => ⟨fun z => absurd z (by decide), fun _ y e y2 e2 => ?_⟩⟩⟩
    · subst e
      exact hrec _ _ _ ⟨rfl, k' + 1, by omega, rfl, congrArg nI (mk_s0 (by simp [q2])).symm⟩ hμ
    · subst e
      exact hrec _ _ _ ⟨rfl, k' + 1, by omega, rfl, congrArg nI (mk_s0 (by simp [q3])).symm⟩ hμ
    · subst e2
      exact hrec _ _ _ ⟨rfl, k' + 1, by omega, rfl, e.trans (by rw [c.1.1]; exact mk_s1 (by omega) (by simp [q2]; simpa using q3))⟩ hμ
/-- those whom node i reaches -/
def recSet (G : gT) (n i : Nat) : Nat := mk (fun j => decide (j ≠ i) && reach G i j) n
theorem c_recv_set (H : zCV Z S0 ad n w S G) (hi : i < n) (b : ∀ j, j < n → (G.1 j).1 0 0 < 2 ^ 30 ∧ (G.1 j).1 1 0 < 2 ^ 30) {Qp : Int32 → zS → Prop} (k : Qp (nI (recSet G n i)) S) : w_X6_receiversOf Z (ad 0 0) (ad 3 i) S Qp := by
  obtain ⟨r1, r2, r3, r4⟩ := cv_row H
  have hn := (zCV_n H).2
  unfold w_X6_receiversOf
  refine ⟨r1, ad 1 0, r2, r3, fun y5 e5 => ?_⟩
  rw [r4] at e5
  subst e5
  refine zlp3 (fun a x S' => S' = S ∧ ∃ k', k' ≤ n ∧ x = nI k' ∧ a = nI (mk (fun j => decide (j ≠ i) && reach G i j) k')) (fun _ x _ => 9 - x.toNatClampNeg) (fun rec a x S' hI hrec => ?_) _ _ S ⟨rfl, 0, by omega, rfl, rfl⟩
  obtain ⟨rfl, k', hk, rfl, rfl⟩ := hI
  unfold wb_X6_receiversOf_14
  have hle : (nI n ≤ nI k') ↔ n ≤ k' := nI_leI (by omega) (by omega)
  rw [hle]
  refine ⟨fun q => ?_, fun q => ?_⟩
  · have : k' = n := by omega
    subst this
    exact k
  · obtain ⟨v1, v2, v3⟩ := cv_at H (k := k') (by omega)
    have c := (cv_g H (j := k') (by omega)).1
    have e1 : (some (ad 3 k') = some (ad 3 i)) ↔ k' = i := ⟨fun q => ((zCV_inj H).mp (Option.some.inj q)).2, fun q => by rw [q]⟩
    have hμ : 9 - (nI (k' + 1)).toNatClampNeg < 9 - (nI k').toNatClampNeg := by rw [nI_clamp (by omega), nI_clamp (by omega)]; omega
    rw [nI_1]
    refine ⟨r3, v1, ad 3 k', v2, ?_⟩
    rw [e1]
    refine ⟨fun q2 y e => ?_, fun q2 => c_reach H hi (j := k') (by omega) (b i hi).2 (b k' (by omega)).2 (b k' (by omega)).1 ⟨fun q3 y e => ?_, fun q3 => ⟨v3, fun y e y2 e2 => ?_⟩⟩⟩
    · subst e
      exact hrec _ _ _ ⟨rfl, k' + 1, by omega, rfl, congrArg nI (mk_s0 (by simp [q2])).symm⟩ hμ
    · subst e
      exact hrec _ _ _ ⟨rfl, k' + 1, by omega, rfl, congrArg nI (mk_s0 (by rw [z01_f q3]; simp)).symm⟩ hμ
    · subst e2
      exact hrec _ _ _ ⟨rfl, k' + 1, by omega, rfl, e.trans (by rw [c.1]; exact mk_s1 (by omega) (by rw [z01_t q3]; simp [q2]))⟩ hμ
end
