/-! a table copied; who is ahead; reach; sets of nodes -/
def nCopyF (N M : nT) : nT := nsJ (nsI (nCopy N M 16) 8 0 (M.1 8 0)) 0 0 (M.2 0 0)
theorem nCopy_0 (N M : nT) : nCopy N M 0 = N := by
  refine Prod.ext rfl (funext fun x => funext fun j => ?_)
  show (if x = 1 ∧ j < 0 then M.2 1 j else N.2 x j) = _
  rw [if_neg (fun q => by omega)]
theorem nCopy_s (N M : nT) (q : Nat) : nsJ (nCopy N M q) 1 q (M.2 1 q) = nCopy N M (q + 1) := by
  refine Prod.ext rfl (funext fun x => funext fun j => ?_)
  show (if x = 1 ∧ j = q then M.2 1 q else if x = 1 ∧ j < q then M.2 1 j else N.2 x j) = if x = 1 ∧ j < q + 1 then M.2 1 j else N.2 x j
  by_cases h1 : x = 1 ∧ j = q
  · rw [if_pos h1, if_pos ⟨h1.1, by omega⟩, h1.2]
  · rw [if_neg h1]
    by_cases h2 : x = 1 ∧ j < q
    · rw [if_pos h2, if_pos ⟨h2.1, by omega⟩]
    · rw [if_neg h2, if_neg (fun q => by omega)]
section
variable {Z : zZ} {S0 S : zS} {ad : Nat → Nat → Nat} {n w : Nat} {G : gT} {i : Nat} {N : nT}
theorem cv_g (H : zCV Z S0 ad n w S G) {j : Nat} (hj : j < n) : zCn Z S ad j (G.1 j) (G.2 ((G.1 j).1 2 0)) := (H.2.2.1 j hj).1
theorem c_copy (H : zCV Z S0 ad n w S (gN G i N)) (hi : i < n) {j : Nat} (hj : j < n) {M : nT} (hM : if j = i then M = N else M = G.1 j) {Qp : zS → Prop} (k : ∀ S', zCV Z S0 ad n w S' (gN G i (nCopyF N M)) → Qp S') : w_X4_copyTable Z (ad 6 i) (ad 6 j) S Qp := by
  obtain ⟨-, -, ⟨f1, f2, -, f4, f5, -, -⟩, -, -⟩ := zCV_nd H hi
  obtain ⟨-, -, ⟨h1, h2, -, h4, h5, -, -⟩, -, -⟩ := zCV_nd H hj
  have hv : ∀ q S', q ≤ 16 → zCV Z S0 ad n w S' (gN G i (nCopy N M q)) → (∀ x, x < 16 → zJ S' (ad 7 j) x = M.2 1 x) ∧ zI S' (ad 6 j) 2 = nI (M.1 8 0) ∧ zJ S' (ad 6 j) 3 = M.2 0 0 := fun q S' hq H' => by
    have c := cv_g H' hj
    by_cases e : j = i
    · subst e
      rw [if_pos rfl] at hM
      rw [g1_Ns] at c
      subst hM
      refine ⟨fun x hx => (c.2.2.1.2.1 x hx).trans ?_, c.1.2 8 (by omega) (by omega), c.2.2.1.1⟩
      show (if 1 = 1 ∧ x < q then M.2 1 x else M.2 1 x) = _
      split <;> rfl
    · rw [if_neg e] at hM
      rw [g1_Nn _ _ e] at c
      subst hM
      exact ⟨c.2.2.1.2.1, c.1.2 8 (by omega) (by omega), c.2.2.1.1⟩
  unfold w_X4_copyTable
  have H0 : zCV Z S0 ad n w S (gN G i (nCopy N M 0)) := by rw [nCopy_0]; exact H
  refine zlp2 (fun x S' => ∃ k', k' ≤ 16 ∧ x = nI k' ∧ zCV Z S0 ad n w S' (gN G i (nCopy N M k'))) (fun x _ => 17 - x.toNatClampNeg) (fun rec x S' hI hrec => ?_) _ S ⟨0, by omega, rfl, H0⟩
  obtain ⟨k', hk, rfl, H'⟩ := hI
  obtain ⟨v1, v2, v3⟩ := hv k' S' hk H'
  unfold wb_X4_copyTable_2
  have hle : (16 : Int32) ≤ nI k' ↔ 16 ≤ k' := nI_leI (a := 16) (by omega) (by omega)
  rw [hle, nI_1, nI_clamp (by omega)]
  refine ⟨fun q => ⟨h1, f1, fun S17 e17 S18 e18 => k S18 ?_⟩, fun q => ⟨f1, ad 7 i, f2, h1, ad 7 j, h2, h4, by rw [h5]; exact vp_in_nI (by omega) (by omega), f4, by rw [f5]; exact vp_in_nI (by omega) (by omega), fun S11 e11 y e => ?_⟩⟩
  · have : k' = 16 := by omega
    subst this
    have H17 := cn_I H' hi 8 (by omega) (by omega) (v := M.1 8 0) (by omega)
    have e17' : S17 = zsI S' (ad (cT 8) i) (cS 8) (nI (M.1 8 0)) := by rw [e17, v2]; rfl
    rw [← e17'] at H17
    have v3' : zJ S17 (ad 6 j) 3 = M.2 0 0 := by rw [e17]; exact v3
    have H18 := cn_J H17 hi 0 0 6 3 (M.2 0 0) (by omega)
    rw [v3'] at e18
    rw [← e18] at H18
    exact H18
  · subst e
    rw [v1 k' (by omega)] at e11
    have H11 := cn_J H' hi 1 k' 7 k' (M.2 1 k') (by omega)
    rw [← e11, nCopy_s] at H11
    refine hrec _ _ ⟨k' + 1, by omega, rfl, H11⟩ ?_
    rw [nI_clamp (by omega), nI_clamp (by omega)]
    omega
/-- node i's record is ahead of node j's -/
def ahead (N M : nT) (i j : Nat) : Bool := if N.1 4 0 = M.1 4 0 then (if N.1 8 0 = M.1 8 0 then decide (i < j) else decide (M.1 8 0 < N.1 8 0)) else decide (M.1 4 0 < N.1 4 0)
theorem c_ahead (H : zCV Z S0 ad n w S G) (hi : i < n) {j : Nat} (hj : j < n) (b1 : (G.1 i).1 4 0 < 2 ^ 30) (b2 : (G.1 j).1 4 0 < 2 ^ 30) (b3 : (G.1 i).1 8 0 < 2 ^ 30) (b4 : (G.1 j).1 8 0 < 2 ^ 30) {Qp : Int32 → zS → Prop} (k : Qp (if ahead (G.1 i) (G.1 j) i j then 1 else 0) S) : w_X2_isAheadOf Z (ad 3 i) (ad 3 j) S Qp := by
  obtain ⟨⟨d1, -, d3, -, -⟩, -, ⟨f1, -⟩, -, -⟩ := zCV_nd H hi
  obtain ⟨⟨h1, -, h3, -, -⟩, -, ⟨g1, -⟩, -, -⟩ := zCV_nd H hj
  have hn := (zCV_n H).2
  have ci := (cv_g H hi).1
  have cj := (cv_g H hj).1
  have i4 : zI S (ad 3 i) 9 = nI ((G.1 i).1 4 0) := ci.2 4 (by omega) (by omega)
  have j4 : zI S (ad 3 j) 9 = nI ((G.1 j).1 4 0) := cj.2 4 (by omega) (by omega)
  have i8 : zI S (ad 6 i) 2 = nI ((G.1 i).1 8 0) := ci.2 8 (by omega) (by omega)
  have j8 : zI S (ad 6 j) 2 = nI ((G.1 j).1 8 0) := cj.2 8 (by omega) (by omega)
  have e1 : (nI ((G.1 i).1 4 0) = nI ((G.1 j).1 4 0)) ↔ (G.1 i).1 4 0 = (G.1 j).1 4 0 := nI_eq (by omega) (by omega)
  have e2 : (nI ((G.1 i).1 8 0) = nI ((G.1 j).1 8 0)) ↔ (G.1 i).1 8 0 = (G.1 j).1 8 0 := nI_eq (by omega) (by omega)
  have e3 : (nI ((G.1 i).1 4 0) ≤ nI ((G.1 j).1 4 0)) ↔ (G.1 i).1 4 0 ≤ (G.1 j).1 4 0 := nI_leI (by omega) (by omega)
  have e4 : (nI ((G.1 i).1 8 0) ≤ nI ((G.1 j).1 8 0)) ↔ (G.1 i).1 8 0 ≤ (G.1 j).1 8 0 := nI_leI (by omega) (by omega)
  have e5 : (nI j ≤ nI i) ↔ j ≤ i := nI_leI (by omega) (by omega)
  have kT : ahead (G.1 i) (G.1 j) i j = true → Qp 1 S := fun h => by rw [h] at k; exact k
  have kF : ahead (G.1 i) (G.1 j) i j = false → Qp 0 S := fun h => by rw [h] at k; exact k
  unfold w_X2_isAheadOf
  rw [i4, j4, ci.1, cj.1, e1, e3, e5]
  refine ⟨d1, h1, fun q => ⟨ad 6 i, d3, f1, ad 6 j, h3, g1, ?_⟩, fun q => ⟨fun q2 => kF ?_, fun q2 => kT ?_⟩⟩
  · rw [i8, j8, e2, e4]
    refine ⟨fun q2 => ⟨fun q3 => kF ?_, fun q3 => kT ?_⟩, fun q2 => ⟨fun q3 => kF ?_, fun q3 => kT ?_⟩⟩
    · unfold ahead; rw [if_pos q, if_pos q2]; exact decide_eq_false (by omega)
    · unfold ahead; rw [if_pos q, if_pos q2]; exact decide_eq_true (by omega)
    · unfold ahead; rw [if_pos q, if_neg q2]; exact decide_eq_false (by omega)
    · unfold ahead; rw [if_pos q, if_neg q2]; exact decide_eq_true (by omega)
  · unfold ahead; rw [if_neg q]; exact decide_eq_false (by omega)
  · unfold ahead; rw [if_neg q]; exact decide_eq_true (by omega)
/-- what node i sends can come to node j -/
def reach (G : gT) (i j : Nat) : Bool := decide ((G.1 j).1 0 0 ≠ 0) && (decide ((G.1 j).1 1 0 = (G.1 i).1 1 0) && decide ((G.1 j).1 2 0 = (G.1 i).1 2 0))
theorem c_reach (H : zCV Z S0 ad n w S G) (hi : i < n) {j : Nat} (hj : j < n) (b1 : (G.1 i).1 1 0 < 2 ^ 30) (b2 : (G.1 j).1 1 0 < 2 ^ 30) (b3 : (G.1 j).1 0 0 < 2 ^ 30) {Qp : Int32 → zS → Prop} (k : Qp (if reach G i j then 1 else 0) S) : w_X6_reaches Z (ad 3 i) (ad 3 j) S Qp := by
  have d1 := (zCV_nd H hi).1.1
  have h1 := (zCV_nd H hj).1.1
  have ci := cv_g H hi
  have cj := cv_g H hj
  have j0 : zI S (ad 3 j) 5 = nI ((G.1 j).1 0 0) := cj.1.2 0 (by omega) (by omega)
  have j1 : zI S (ad 3 j) 6 = nI ((G.1 j).1 1 0) := cj.1.2 1 (by omega) (by omega)
  have i1 : zI S (ad 3 i) 6 = nI ((G.1 i).1 1 0) := ci.1.2 1 (by omega) (by omega)
  have e0 : (nI ((G.1 j).1 0 0) = 0) ↔ (G.1 j).1 0 0 = 0 := nI_eq (by omega) (by omega : 0 < 2 ^ 31)
  have e1 : (nI ((G.1 j).1 1 0) = nI ((G.1 i).1 1 0)) ↔ (G.1 j).1 1 0 = (G.1 i).1 1 0 := nI_eq (by omega) (by omega)
  have e2 : (some (ad 12 ((G.1 j).1 2 0)) = some (ad 12 ((G.1 i).1 2 0))) ↔ (G.1 j).1 2 0 = (G.1 i).1 2 0 := ⟨fun q => ((zCV_inj H).mp (Option.some.inj q)).2, fun q => by rw [q]⟩
  have kT : reach G i j = true → Qp 1 S := fun h => by rw [h] at k; exact k
  have kF : reach G i j = false → Qp 0 S := fun h => by rw [h] at k; exact k
  unfold w_X6_reaches
  rw [j0, j1, i1, e0, e1]
  refine ⟨h1, fun q => kF ?_, fun q => ⟨d1, fun q2 => kF ?_, fun q2 => ⟨_, cj.2.1, _, ci.2.1, ?_⟩⟩⟩
  · unfold reach; simp [q]
  · unfold reach; simp [q2]
  · rw [e2]
    refine ⟨fun q3 => kF ?_, fun q3 => kT ?_⟩
    · unfold reach; simp [q3]
    · unfold reach; simp [q, q2, q3]
end
