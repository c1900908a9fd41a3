/-! pass's pieces: what is missing is requested, the token goes on -/
/-- requests of places q .. (places from 101 - k on, to the last) that the node does not have -/
def rMiss (N R : nT) (q : Nat) : nT := (fun f j => if f = 4 ∧ 1 ≤ j ∧ j < q ∧ N.1 16 j = 0 then 1 else R.1 f j, R.2)
theorem rMiss_1 (N R : nT) : rMiss N R 1 = R := by
  refine Prod.ext (funext fun f => funext fun j => ?_) rfl
  show (if f = 4 ∧ 1 ≤ j ∧ j < 1 ∧ N.1 16 j = 0 then 1 else R.1 f j) = _
  rw [if_neg (fun q => by omega)]
theorem rMiss_s0 (N R : nT) {q : Nat} (h : N.1 16 q ≠ 0) : rMiss N R (q + 1) = rMiss N R q := by
  refine Prod.ext (funext fun f => funext fun j => ?_) rfl
  show (if f = 4 ∧ 1 ≤ j ∧ j < q + 1 ∧ N.1 16 j = 0 then 1 else R.1 f j) = if f = 4 ∧ 1 ≤ j ∧ j < q ∧ N.1 16 j = 0 then 1 else R.1 f j
  refine z_ifc2 ⟨fun z => ?_, fun z => ⟨z.1, z.2.1, by omega, z.2.2.2⟩⟩
  have : j ≠ q := fun e => h (e ▸ z.2.2.2)
  exact ⟨z.1, z.2.1, by omega, z.2.2.2⟩
theorem rMiss_s1 (N R : nT) {q : Nat} (h1 : 1 ≤ q) (h : N.1 16 q = 0) : rMiss N R (q + 1) = nsI (rMiss N R q) 4 q 1 := by
  refine Prod.ext (funext fun f => funext fun j => ?_) rfl
  show (if f = 4 ∧ 1 ≤ j ∧ j < q + 1 ∧ N.1 16 j = 0 then 1 else R.1 f j) = if f = 4 ∧ j = q then 1 else if f = 4 ∧ 1 ≤ j ∧ j < q ∧ N.1 16 j = 0 then 1 else R.1 f j
  by_cases e : f = 4 ∧ j = q
  · rw [if_pos e, if_pos ⟨e.1, by omega, by omega, by rw [e.2]; exact h⟩]
  · rw [if_neg e]
    exact z_ifc2 ⟨fun z => ⟨z.1, z.2.1, by omega, z.2.2.2⟩, fun z => ⟨z.1, z.2.1, by omega, z.2.2.2⟩⟩
section
variable {Z : zZ} {S0 S : zS} {ad : Nat → Nat → Nat} {n w : Nat} {G : gT} {i : Nat} {N : nT}
theorem c_miss (H : zCV Z S0 ad n w S G) (hi : i < n) {r : Nat} (hr : (G.1 i).1 2 0 = r) (hl : (G.2 r).1 3 0 ≤ 100) {Qp : zS → Prop} (k : ∀ S', zCV Z S0 ad n w S' (gR G r (rMiss (G.1 i) (G.2 r) ((G.2 r).1 3 0 + 1))) → Qp S') : w_X6_requestMissing Z (ad 3 i) S Qp := by
  obtain ⟨⟨d1, d2, d3, d4, d5⟩, -, -, -, ⟨f1, f2⟩⟩ := zCV_nd H hi
  have hri : zri n r := hr ▸ (H.2.2.1 i hi).2
  obtain ⟨hrk, q0, -, p1, p2, -, -⟩ := zCV_rg H hri
  have c0 := cv_g H hi
  have hrg : zR S (ad 3 i) 7 = some (ad 12 r) := hr ▸ c0.2.1
  unfold w_X6_requestMissing
  refine ⟨d1, ad 12 r, hrg, ?_⟩
  have H0 : zCV Z S0 ad n w S (gR G r (rMiss (G.1 i) (G.2 r) 1)) := by rw [rMiss_1, gR_self]; exact H
  refine zlp2 (fun x S' => ∃ k', 1 ≤ k' ∧ k' ≤ (G.2 r).1 3 0 + 1 ∧ x = nI k' ∧ zCV Z S0 ad n w S' (gR G r (rMiss (G.1 i) (G.2 r) k'))) (fun x _ => 102 - x.toNatClampNeg) (fun rec x S' hI hrec => ?_) _ S ⟨1, by omega, by omega, rfl, H0⟩
  obtain ⟨k', hk1, hk, rfl, H'⟩ := hI
  have g3 : zI S' (ad 12 r) 5 = nI ((G.2 r).1 3 0) := by
    have := (cv_R H' hri).1.2.2.2
    rw [g2_Rs] at this
    exact this
  unfold wb_X6_requestMissing_7
  have hle : (nI ((G.2 r).1 3 0) < nI k') ↔ (G.2 r).1 3 0 < k' := nI_ltI (by omega) (by omega)
  rw [g3, hle, nI_1, nI_clamp (by omega)]
  have hμ : ∀ m, m = k' + 1 → k' ≤ 100 → 102 - (nI m).toNatClampNeg < 102 - (nI k').toNatClampNeg := fun m e h => by rw [e, nI_clamp (by omega), nI_clamp (by omega)]; omega
  refine ⟨hrk, fun q => ?_, fun q => ⟨d1, ad 11 i, d5, f1, by rw [f2]; exact vp_in_nI (by omega) (by omega), fun b q2 y e => ?_, fun q2 => ⟨ad 13 r, q0, p1, by rw [p2]; exact vp_in_nI (by omega) (by omega), fun S17 e17 y e => ?_⟩⟩⟩
  · have : k' = (G.2 r).1 3 0 + 1 := by omega
    subst this
    exact k S' H'
  · subst e
    have h := (cv_g H' hi).2.2.2.2.2 k' (by omega)
    have h0 : (G.1 i).1 16 k' ≠ 0 := fun e => by
      rw [h.1 e] at q2
      exact absurd q2 (by simp)
    exact hrec _ _ ⟨k' + 1, by omega, by omega, rfl, by rw [rMiss_s0 _ _ h0]; exact H'⟩ (hμ _ rfl (by omega))
  · subst e
    have h := (cv_g H' hi).2.2.2.2.2 k' (by omega)
    have h0 : (G.1 i).1 16 k' = 0 := by
      by_cases e : (G.1 i).1 16 k' = 0
      · exact e
      · obtain ⟨b, b1, -⟩ := h.2 e
        rw [q2] at b1
        exact absurd b1 (by simp)
    have H17 := cr_Rq H' hri (j := k') 1
    have e17' : S17 = zsI S' (ad 13 r) k' (nI 1) := e17
    rw [← e17'] at H17
    exact hrec _ _ ⟨k' + 1, by omega, by omega, rfl, by rw [rMiss_s1 _ _ hk1 h0]; exact H17⟩ (hμ _ rfl (by omega))
theorem mbf_n {s n i : Nat} (hs : s < 2 ^ n) (hi : i < n) : ∀ k, mbf s i k < n := by
  intro k
  induction k with
  | zero => exact hi
  | succ k ih =>
    unfold mbf
    split
    · rename_i h
      exact Nat.lt_of_not_le (fun q => by rw [mask_hi hs q] at h; exact Bool.noConfusion h)
    · exact ih
/-- the token goes on -/
def rOn (G : gT) (i r : Nat) : nT := nsI (G.2 r) 2 0 (if reach G i (mbf ((G.2 r).1 1 0) i 7) then mbf ((G.2 r).1 1 0) i 7 + 1 else 0)
theorem c_on (H : zCV Z S0 ad n w S G) (hi : i < n) {r : Nat} (hr : (G.1 i).1 2 0 = r) (hm : (G.2 r).1 1 0 < 2 ^ n) (b : ∀ j, j < n → (G.1 j).1 0 0 < 2 ^ 30 ∧ (G.1 j).1 1 0 < 2 ^ 30) {Qp : zS → Prop} (k : ∀ S', zCV Z S0 ad n w S' (gR G r (rOn G i r)) → Qp S') : w_X6_handOn Z (ad 0 0) (ad 3 i) S Qp := by
  obtain ⟨r1, r2, r3, r4⟩ := cv_row H
  have hn := (zCV_n H).2
  have d1 := (zCV_nd H hi).1.1
  have hri : zri n r := hr ▸ (H.2.2.1 i hi).2
  have hrk := (zCV_rg H hri).1
  have c0 := cv_g H hi
  have hrg : zR S (ad 3 i) 7 = some (ad 12 r) := hr ▸ c0.2.1
  have hmn := mbf_n hm hi 7
  obtain ⟨v1, v2, v3⟩ := cv_at H hmn
  have cm := (cv_g H hmn).1
  unfold w_X6_handOn
  refine ⟨d1, ad 12 r, hrg, r1, ad 1 0, r2, hrk, ?_⟩
  rw [c0.1.1]
  refine c_behind H hri (by omega) ⟨r3, v1, ad 3 (mbf ((G.2 r).1 1 0) i 7), v2, c_reach H hi hmn (b i hi).2 (b _ hmn).2 (b _ hmn).1 ⟨fun q S16 e16 => k S16 ?_, fun q => ⟨v3, fun S18 e18 => k S18 ?_⟩⟩⟩
  · have H16 := cs_R H hri (f := 2) (by omega) 0 (-1) (by decide)
    have e16' : S16 = zsI S (ad 12 r) (2 + 2) (-1) := e16
    rw [← e16'] at H16
    unfold rOn
    rw [z01_f q]
    exact H16
  · have H18 := cs_R H hri (f := 2) (by omega) (mbf ((G.2 r).1 1 0) i 7 + 1) (nI (mbf ((G.2 r).1 1 0) i 7)) (by rw [if_pos rfl]; exact (nI_pred _).symm)
    have e18' : S18 = zsI S (ad 12 r) (2 + 2) (nI (mbf ((G.2 r).1 1 0) i 7)) := by rw [e18, cm.1]
    rw [← e18'] at H18
    unfold rOn
    rw [z01_t q]
    exact H18
end
