/-! what is requested is sent again -/
theorem nRecv_ne (N R : nT) (p : Nat) {f : Nat} (j : Nat) (h1 : f ≠ 16) (h2 : f ≠ 14) (h3 : f ≠ 15) : (nRecv N R p).1 f j = N.1 f j := by
  unfold nRecv
  split
  · rw [n1_sJ, n1_ne _ _ _ _ h3, n1_ne _ _ _ _ h2, n1_ne _ _ _ _ h1]
  · rw [n1_ne _ _ _ _ h1]
theorem gGive_ne (G : gT) (P : Nat → Bool) (r p q i : Nat) {f : Nat} (j : Nat) (h1 : f ≠ 16) (h2 : f ≠ 14) (h3 : f ≠ 15) : ((gGive G P r p q).1 i).1 f j = (G.1 i).1 f j := by
  show (if i < q ∧ P i = true then nRecv (G.1 i) (G.2 r) p else G.1 i).1 f j = _
  split
  · exact nRecv_ne _ _ _ _ h1 h2 h3
  · rfl
def gReq1 (n i r : Nat) (P : Nat → Bool) (G : gT) (q : Nat) : gT := if (G.2 r).1 4 q ≠ 0 ∧ (G.1 i).1 16 q ≠ 0 then gR (gGive G P r q n) r (nsI (G.2 r) 4 q 0) else G
def gReq (n i r : Nat) (P : Nat → Bool) (L : Nat) : Nat → gT → gT
  | 0, G => G
  | k + 1, G => gReq n i r P L k (gReq1 n i r P G (L - k))
theorem gReq1_n (n i r : Nat) (P : Nat → Bool) (G : gT) (q j : Nat) {f : Nat} (x : Nat) (h1 : f ≠ 16) (h2 : f ≠ 14) (h3 : f ≠ 15) : ((gReq1 n i r P G q).1 j).1 f x = (G.1 j).1 f x := by
  unfold gReq1
  split
  · rw [g1_R]
    exact gGive_ne _ _ _ _ _ _ _ h1 h2 h3
  · rfl
theorem gReq1_r (n i r : Nat) (P : Nat → Bool) (G : gT) (q s : Nat) {f : Nat} (x : Nat) (h : f ≠ 4) : ((gReq1 n i r P G q).2 s).1 f x = (G.2 s).1 f x := by
  unfold gReq1
  split
  · rw [g2_R]
    split
    · rename_i e
      rw [e, n1_ne _ _ _ _ h]
    · rfl
  · rfl
section
variable {Z : zZ} {S0 S : zS} {ad : Nat → Nat → Nat} {n w : Nat} {G : gT} {i : Nat} {N : nT}
theorem c_req (H : zCV Z S0 ad n w S G) (hi : i < n) {x : Int32} {P : Nat → Bool} (hP : ∀ j, j < n → bt x j = P j) {r : Nat} (hri : (G.1 i).1 2 0 = r) (hr : ∀ j, j < n → P j = true → (G.1 j).1 2 0 = r) (hok : rOk (G.2 r)) (h4 : ∀ j, j < n → (G.1 j).1 4 0 < 2 ^ 30) (hl : (G.2 r).1 3 0 ≤ 100) (hrq : ∀ p, p < 101 → (G.2 r).1 4 p < 2) {Qp : zS → Prop} (k : ∀ S', zCV Z S0 ad n w S' (gReq n i r P ((G.2 r).1 3 0) ((G.2 r).1 3 0) G) → Qp S') : w_X6_sendRequested Z (ad 0 0) (ad 3 i) x S Qp := by
  obtain ⟨r1, r2, r3, r4⟩ := cv_row H
  obtain ⟨⟨d1, d2, d3, d4, d5⟩, -, -, -, ⟨f1, f2⟩⟩ := zCV_nd H hi
  have hri' : zri n r := hri ▸ (H.2.2.1 i hi).2
  obtain ⟨hrk, q0, -, p1, p2, -, -⟩ := zCV_rg H hri'
  have hrg : zR S (ad 3 i) 7 = some (ad 12 r) := hri ▸ (cv_g H hi).2.1
  unfold w_X6_sendRequested
  refine ⟨d1, ad 12 r, hrg, ?_⟩
  generalize hL : (G.2 r).1 3 0 = L at k hl
  refine zlp2 (fun y S' => ∃ k' G', k' ≤ L ∧ y = nI (L + 1 - k') ∧ zCV Z S0 ad n w S' G' ∧ gReq n i r P L k' G' = gReq n i r P L L G ∧ (∀ j f, j < n → f ≠ 16 → f ≠ 14 → f ≠ 15 → (G'.1 j).1 f 0 = (G.1 j).1 f 0) ∧ (∀ f p, f ≠ 4 → (G'.2 r).1 f p = (G.2 r).1 f p) ∧ ∀ p, p < 101 → (G'.2 r).1 4 p < 2) (fun y _ => 102 - y.toNatClampNeg) (fun rec y S' hI hrec => ?_) _ S ⟨L, G, by omega, by rw [show L + 1 - L = 1 by omega]; rfl, H, rfl, fun _ _ _ _ _ _ => rfl, fun _ _ _ => rfl, hrq⟩
  obtain ⟨k', G', hk, rfl, H', hd, hn', hr', hb'⟩ := hI
  have g3 : zI S' (ad 12 r) 5 = nI L := by
    have := (cv_R H' hri').1.2.2.2
    rw [hr' 3 0 (by omega), hL] at this
    exact this
  unfold wb_X6_sendRequested_8
  have hle : (nI L < nI (L + 1 - k')) ↔ L < L + 1 - k' := nI_ltI (by omega) (by omega)
  rw [g3, hle]
  refine ⟨hrk, fun q => ?_, fun q => ?_⟩
  · have : k' = 0 := by omega
    subst this
    refine k S' ?_
    rw [← hd]
    exact H'
  · obtain ⟨j, rfl⟩ : ∃ j, k' = j + 1 := ⟨k' - 1, by omega⟩
    have e1 : L + 1 - (j + 1) = L - j := by omega
    have e2 : L - j + 1 = L + 1 - j := by omega
    have hμ : 102 - (nI (L + 1 - j)).toNatClampNeg < 102 - (nI (L + 1 - (j + 1))).toNatClampNeg := by rw [nI_clamp (by omega), nI_clamp (by omega)]; omega
    have g4 : zI S' (ad 13 r) (L - j) = nI ((G'.2 r).1 4 (L - j)) := (cv_R H' hri').2.1 (L - j) (by omega)
    have e0 : (nI ((G'.2 r).1 4 (L - j)) = 0) ↔ (G'.2 r).1 4 (L - j) = 0 := nI_eq (by have := hb' (L - j) (by omega); omega) (by omega : 0 < 2 ^ 31)
    have hgo : ∀ S'', zCV Z S0 ad n w S'' (gReq1 n i r P G' (L - j)) → rec (nI (L + 1 - j)) S'' := fun S'' H'' => by
      refine hrec _ _ ⟨j, _, by omega, rfl, H'', hd, fun j' f a b c d => ?_, fun f p a => ?_, fun p hp => ?_⟩ hμ
      · rw [gReq1_n _ _ _ _ _ _ _ _ b c d]; exact hn' j' f a b c d
      · rw [gReq1_r _ _ _ _ _ _ _ _ a]; exact hr' f p a
      · unfold gReq1
        split
        · rw [g2_Rs, n1_sI]
          split
          · omega
          · exact hb' p hp
        · exact hb' p hp
    rw [e1, nI_clamp (by omega), nI_1, e2]
    have hi2 : (G'.1 i).1 2 0 = r := by rw [hn' i 2 hi (by omega) (by omega) (by omega)]; exact hri
    have h := (cv_g H' hi).2.2.2.2.2 (L - j) (by omega)
    rw [hi2] at h
    refine ⟨ad 13 r, q0, p1, by rw [p2]; exact vp_in_nI (by omega) (by omega), ?_⟩
    rw [g4, e0]
    refine ⟨fun q2 y e => ?_, fun q2 => ⟨d1, ad 11 i, d5, f1, by rw [f2]; exact vp_in_nI (by omega) (by omega), fun q3 y e => ?_, fun b q3 => ⟨r1, ?_⟩⟩⟩
    · subst e
      refine hgo S' ?_
      unfold gReq1
      rw [if_neg (fun z => z.1 q2)]
      exact H'
    · subst e
      have h0 : (G'.1 i).1 16 (L - j) = 0 := by
        by_cases e : (G'.1 i).1 16 (L - j) = 0
        · exact e
        · obtain ⟨b, b1, -⟩ := h.2 e
          rw [q3] at b1
          exact absurd b1 (by simp)
      refine hgo S' ?_
      unfold gReq1
      rw [if_neg (fun z => z.2 h0)]
      exact H'
    · have h0 : (G'.1 i).1 16 (L - j) ≠ 0 := fun e => by
        rw [h.1 e] at q3
        exact absurd q3 (by simp)
      obtain ⟨b', b1, m⟩ := h.2 h0
      have : b' = b := by rw [q3] at b1; exact (Option.some.inj b1).symm
      subst this
      have hok' : rOk (G'.2 r) := ⟨by rw [hr' 0 0 (by omega)]; exact hok.1, fun p hp => by rw [hr' 6 p (by omega), hr' 7 p (by omega), hr' 8 p (by omega)]; exact hok.2 p hp⟩
      refine c_give H' hP (r := r) (fun j' hj hpj => by rw [hn' j' 2 hj (by omega) (by omega) (by omega)]; exact hr j' hj hpj) hok' (fun j' hj => by rw [hn' j' 4 hj (by omega) (by omega) (by omega)]; exact h4 j' hj) (by omega) m (fun S18 H18 S19 e19 y e => ?_)
      subst e
      have H19 := cs_Rq H18 hri' (j := L - j) 0
      have e19' : S19 = zsI S18 (ad 13 r) (L - j) (nI 0) := e19
      rw [← e19'] at H19
      refine hgo S19 ?_
      unfold gReq1
      rw [if_pos ⟨q2, h0⟩]
      exact H19
end
