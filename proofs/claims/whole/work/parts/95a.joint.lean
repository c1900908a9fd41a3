/-! class and reference side by side in one heap -/
theorem lcmp_self (x : Int64) : lg_cmp x x = 0 := by
  unfold lg_cmp
  rw [if_neg (Int64.lt_irrefl), if_pos rfl]
theorem mC_cg {n w : Nat} {sg : Nat → Nat} {u : Nat → Nat → Bool} {A A' : Nat → Nat → Int32} {B B' : Nat → Nat → Int64} {G : gT} (H : mC n w sg u A B G) (eA : ∀ k, mgd k → A' k = A k) (eB : ∀ k, mgd k → B' k = B k) : mC n w sg u A' B' G := by
  have g : ∀ c, 3 ≤ c → c < 36 → mgd c := fun c x y => Or.inr ⟨x, y⟩
  have e : ∀ c, 3 ≤ c → c < 36 → A' c = A c := fun c x y => eA c (g c x y)
  have eb : ∀ c, 3 ≤ c → c < 36 → B' c = B c := fun c x y => eB c (g c x y)
  obtain ⟨h1, h2, h3⟩ := H
  refine ⟨by rw [eA 0 (Or.inl rfl)]; exact h1, fun j hj => ?_, h3⟩
  obtain ⟨⟨z1, z2, z3, z4⟩, z5, z6, z7⟩ := h2 j hj
  refine ⟨⟨fun f hf hf2 h6 h8 => ?_, ?_, ?_, ?_⟩, ?_, ?_, ?_⟩
  · have r := mA_rg f hf hf2
    rw [e (mA f) r.1 (by omega)]
    exact z1 f hf hf2 h6 h8
  · rw [eb 9 (by omega) (by omega), eb 7 (by omega) (by omega), eb 23 (by omega) (by omega)]; exact z2
  · rw [e 13 (by omega) (by omega), eb 14 (by omega) (by omega), e 15 (by omega) (by omega)]; exact z3
  · rw [e 19 (by omega) (by omega), e 20 (by omega) (by omega), eb 21 (by omega) (by omega)]; exact z4
  · unfold mNr at z5 ⊢
    rw [e 5 (by omega) (by omega)]; exact z5
  · unfold mNh at z6 ⊢
    rw [e 33 (by omega) (by omega)]; exact z6
  · unfold mRg at z7 ⊢
    rw [e 24 (by omega) (by omega), e 25 (by omega) (by omega), e 28 (by omega) (by omega), e 26 (by omega) (by omega), e 27 (by omega) (by omega), e 29 (by omega) (by omega), e 30 (by omega) (by omega), eb 31 (by omega) (by omega), e 32 (by omega) (by omega), e 34 (by omega) (by omega), e 35 (by omega) (by omega)]
    exact z7
section
variable {Z Z' : zZ} {S0 S1 S S' S6 : zS} {ad ad' : Nat → Nat → Nat} {ar : Nat → Nat} {n w b1 b8 b15 k t l : Nat} {sg sg' : Nat → Nat} {u : Nat → Nat → Bool} {G G' : gT}
/-- the reference's cells, when others have changed -/
theorem zMV_mv (H : zMV Z S0 ar n w sg u S G) (hd : ∀ c, mgd c → zAt S S' (ar c)) : zMV Z S' ar n w sg u S' G := ⟨⟨H.1.1, fun a _ => zAt_rf _ _⟩, mC_cg H.2 (fun c hc => (hd c hc).1) (fun c hc => (hd c hc).2.1)⟩
theorem zMV_ad (H : zMV Z S0 ar n w sg u S G) (he : zZe Z Z') (hd : ∀ c, mgd c → zAt S S' (ar c)) : ∃ ar', (∀ c, mgd c → ar' c = ar c) ∧ (∀ c, ¬ mgd c → ar' c ∉ zL Z') ∧ zMV Z' S' ar' n w sg u S' G := by
  obtain ⟨M, hM⟩ := lst_bd (zL Z')
  have f0 := he _ _ H.1.1.1
  refine ⟨arx M ar, fun c hc => arx_u hc, fun c hc hin => ?_, ⟨zMs_arx f0.1 (fun k h3 h36 => ?_) (fun k k' _ _ e => (H.1.1.2.2 k k').mp e) hM, fun a _ => zAt_rf _ _⟩, mC_cg H.2 (fun c hc => ?_) (fun c hc => ?_)⟩
  · have := hM _ hin
    rw [arx_n hc] at this
    omega
  · obtain ⟨x, y, z⟩ := H.1.1.2.1 k h3 h36
    have f := he _ _ y
    exact ⟨(f0.2.2 k).trans x, f.1, f.2.1.trans z⟩
  · show zI S' (arx M ar c) = zI S (ar c)
    rw [arx_u hc]; exact (hd c hc).1
  · show zJ S' (arx M ar c) = zJ S (ar c)
    rw [arx_u hc]; exact (hd c hc).2.1
theorem zCV_mv (H : zCV Z S0 ad n w S G) (hu : ∀ t i, usdb n t i = true → zAt S S' (ad t i)) (hm : ∀ b, zk Z b 1 → zAt S S' b) : zCV Z S' ad n w S' G := zCV_ad H H.1 (fun t i h => ⟨rfl, hu t i h⟩) (fun b h => ⟨h, hm b h⟩)
/-- where the cells lie -/
def zJI (Z : zZ) (ad : Nat → Nat → Nat) (ar : Nat → Nat) (b15 : Nat) : Prop := (∀ c, mgd c → ∀ t i, ar c ≠ ad t i) ∧ (∀ c, ¬ mgd c → ar c ∉ zL Z) ∧ (zk Z b15 9 ∧ zN Z b15 = 1 ∧ (∀ t i, b15 ≠ ad t i) ∧ ∀ c, mgd c → b15 ≠ ar c)
/-- what holds between calls -/
def zLI (b1 b8 b15 k : Nat) (Z : zZ) (S : zS) : Prop := ∃ ad ar n w sg G l, zCV Z S ad n w S G ∧ zMV Z S ar n w sg uZ S G ∧ zJI Z ad ar b15 ∧ (ad 0 0 = b1 ∧ ar 0 = b8) ∧ gW n G k l ∧ l ≤ 400 * k
/-- the class has moved, and its answer is kept: the reference stands as it was -/
theorem j_cls (hC : zCV Z S ad n w S' G') (hM : zMV Z S ar n w sg u S G) (hJ : zJI Z ad ar b15) (h6 : ∀ a, a ≠ b15 → zAt S' S6 a) : zCV Z S6 ad n w S6 G' ∧ zMV Z S6 ar n w sg u S6 G := by
  obtain ⟨j1, j2, j3, j4, j5, j6⟩ := hJ
  refine ⟨zCV_mv hC (fun t i _ => h6 _ (fun e => j5 t i e.symm)) (fun b hb => h6 b (fun e => ?_)), zMV_mv hM (fun c hc => zAt_tr (hC.2.2.2.2 _ (fun t i => j1 c hc t i)) (h6 _ (fun e => j6 c hc e.symm)))⟩
  have := hb.2
  rw [e, j3.2] at this
  omega
/-- the reference has moved: the class stands as it was -/
theorem j_ref (hC : zCV Z S0 ad n w S G') (hM : zMV Z S ar n w sg u S' G') (hJ : zJI Z ad ar b15) : zCV Z S' ad n w S' G' ∧ zMV Z S' ar n w sg u S' G' ∧ zAt S S' b15 := by
  obtain ⟨j1, j2, j3, j4, j5, j6⟩ := hJ
  have hf := hM.1.2
  have hkd : ∀ k, k < 36 → mkd k ≠ 1 := by decide
  refine ⟨zCV_mv hC (fun t i hu => hf _ (fun c hc e => ?_)) (fun b hb => hf b (fun c hc e => ?_)), zMV_mv hM (fun c _ => zAt_rf _ _), hf _ (fun c hc e => ?_)⟩
  · by_cases g : mgd c
    · exact j1 c g t i e.symm
    · obtain ⟨k, -, hz⟩ := zSh_k (zSh_of hC.1) hu
      rw [e] at hz
      exact j2 c g hz.1
  · by_cases g : mgd c
    · have h1 := hb.2
      rw [e] at h1
      rcases g with g | g
      · rw [g, hM.1.1.1.2] at h1
        omega
      · rw [(hM.1.1.2.1 c g.1 g.2).2.1.2] at h1
        exact hkd c g.2 h1
    · rw [e] at hb
      exact j2 c g hb.1
  · by_cases g : mgd c
    · exact j6 c g e
    · rw [e] at j3
      exact j2 c g j3.1
theorem W_mono {t' l' : Nat} (h : gW n G t l) (ht : t ≤ t') (hl : l ≤ l') : gW n G t' l' := by
  obtain ⟨h1, h2, h3, h4⟩ := h
  exact ⟨h1, h2, ⟨fun j hj => by have := h3.1 j hj; omega, fun r => by have := h3.2 r; omega⟩, h4⟩
/-- after a round -/
theorem j_fin (hC : zCV Z S6 ad n w S6 G') (hM : zMV Z S6 ar n w sg uZ S' G') (hJ : zJI Z ad ar b15) (hW : gW n G' (k + 1) l) (hl : l ≤ 400 * (k + 1)) : zLI (ad 0 0) (ar 0) b15 (k + 1) Z S' ∧ zAt S6 S' b15 := by
  obtain ⟨a1, a2, a3⟩ := j_ref hC hM hJ
  exact ⟨⟨ad, ar, n, w, sg, G', l, a1, a2, hJ, ⟨rfl, rfl⟩, hW, hl⟩, a3⟩
theorem nI_inj {i j : Nat} (hn : n ≤ 8) (hi : i < n) (hj : j < n) (h : nI i = nI j) : i = j := (nI_eq (by omega) (by omega)).mp h
theorem nI_bad {i m : Nat} (hi : i < m) (hm : m < 2 ^ 31) (h : nI i < 0 ∨ nI m ≤ nI i) : False := by
  rcases h with h | h
  · exact nI_pos (by omega) h
  · have := (nI_leI (by omega) (by omega)).mp h
    omega
/-- what the law does with the answers -/
theorem j_tl {rec : Nat → Int32 → zZ → zS → Prop} {x2 x3 : Nat} {x4 v : Int32} {c : Int64} (hz : zk Z x2 7) (h3 : zk Z x3 9) (hN : zN Z x3 = 1) (ht : zI S x2 0 = v) (hv : v = 0 → zJ S x3 (0 : Int32).toNatClampNeg = c) (hrec : ∀ y, y = x4 + 6 → rec (k + 1) y Z S) : w_X7_thrown Z x2 S (fun (v58 : Int32) (S57 : zS) => ((v58 = v → ((¬ v = 0 → ∀ y59 : Int32, y59 = x4 + 6 → rec (k + 1) y59 Z S57) ∧ (v = 0 → zk Z x3 9 ∧ vp_in 0 (zN Z x3) ∧ (((lg_cmp (zJ S57 x3 (0 : Int32).toNatClampNeg) c) = 0 → ∀ y62 : Int32, y62 = x4 + 6 → rec (k + 1) y62 Z S57) ∧ (¬ (lg_cmp (zJ S57 x3 (0 : Int32).toNatClampNeg) c) = 0 → False))))) ∧ (¬ v58 = v → False))) :=
  ⟨hz, fun _ => ⟨fun _ => hrec, fun h0 => ⟨h3, by rw [hN]; exact vp_in_nI (n := 0) (by omega) (by omega), fun _ => hrec, fun z => z (by rw [hv h0]; exact lcmp_self c)⟩⟩, fun z => z ht⟩
theorem j_tl0 {rec : Nat → Int32 → zZ → zS → Prop} {x2 : Nat} {x4 v : Int32} (hz : zk Z x2 7) (ht : zI S x2 0 = v) (hrec : ∀ y, y = x4 + 6 → rec (k + 1) y Z S) : w_X7_thrown Z x2 S (fun (v90 : Int32) (S89 : zS) => ((v90 = v → ∀ y91 : Int32, y91 = x4 + 6 → rec (k + 1) y91 Z S89) ∧ (¬ v90 = v → False))) :=
  ⟨hz, fun _ => hrec, fun z => z ht⟩
end
