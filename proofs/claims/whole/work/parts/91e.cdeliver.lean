/-! a node receives, delivers -/
def nRecv (N R : nT) (p : Nat) : nT := if R.1 8 p ≠ 0 ∧ prim N R = true then nsJ (nsI (nsI (nsI N 16 p 1) 14 p 1) 15 p (R.1 7 p)) 14 p (R.2 6 p) else nsI N 16 p 1
def nDel (N R : nT) (p : Nat) : nT := if R.1 8 p ≠ 0 ∧ prim N R = true then nApply (nTellM N (R.1 0 0) p (R.1 6 p) (R.1 7 p) (R.2 6 p)) p (R.1 7 p) (R.2 6 p) else nTellM N (R.1 0 0) p (R.1 6 p) (R.1 7 p) (R.2 6 p)
def dlv (R : nT) : Nat → nT → nT
  | 0, N => N
  | k + 1, N => if N.1 16 (100 - k) ≠ 0 ∧ (R.1 8 (100 - k) = 0 ∨ 100 - k ≤ N.1 7 0) then dlv R k (nDel N R (100 - k)) else N
def dlf (R : nT) (t : Nat) : Nat → Bool → nT → nT
  | 0, _, N => N
  | k + 1, g, N => if N.1 16 (100 - k) = 0 then dlf R t k true N else if g = false ∨ t.testBit (R.1 6 (100 - k)) = true then dlf R t k g (nTellM N (R.1 0 0) (100 - k) (R.1 6 (100 - k)) (R.1 7 (100 - k)) (R.2 6 (100 - k))) else dlf R t k g N
/-- what telling and applying leave -/
theorem n1_eq (N : nT) (f j v : Nat) : (nsI N f j v).1 f j = v := if_pos ⟨rfl, rfl⟩
theorem nTellM_ne (N : nT) (num p snd key : Nat) (v : Int64) {f : Nat} (j : Nat) (h6 : f ≠ 6) (h10 : f ≠ 10) : (nTellM N num p snd key v).1 f j = N.1 f j := by
  unfold nTellM nTell
  rw [n1_ne _ _ _ _ h10]
  exact n1_ne _ _ _ _ h6
theorem nTellM_10 (N : nT) (num p snd key : Nat) (v : Int64) : (nTellM N num p snd key v).1 10 0 = N.1 10 0 + 1 := by
  unfold nTellM nTell
  rw [n1_sI, if_pos ⟨rfl, rfl⟩, n1_ne _ _ _ _ (by omega)]
theorem nTellM_6 (N : nT) (num p snd key : Nat) (v : Int64) : (nTellM N num p snd key v).1 6 0 = p := by
  unfold nTellM nTell
  rw [n1_ne _ _ _ _ (by omega)]
  exact n1_eq N 6 0 p
theorem nApply_ne (N : nT) (p key : Nat) (v : Int64) {f : Nat} (j : Nat) (h8 : f ≠ 8) (h9 : f ≠ 9) : (nApply N p key v).1 f j = N.1 f j := by
  unfold nApply
  rw [n1_ne _ _ _ _ h9]
  exact n1_ne _ _ _ _ h8
theorem nApply_8 (N : nT) (p key : Nat) (v : Int64) : (nApply N p key v).1 8 0 = N.1 8 0 + 1 := by
  unfold nApply
  rw [n1_ne _ _ _ _ (by omega)]
  exact n1_eq (nsJ N 1 key v) 8 0 _
theorem nDel_ne (N R : nT) (p : Nat) {f : Nat} (j : Nat) (h6 : f ≠ 6) (h10 : f ≠ 10) (h8 : f ≠ 8) (h9 : f ≠ 9) : (nDel N R p).1 f j = N.1 f j := by
  unfold nDel
  split
  · rw [nApply_ne _ _ _ _ _ h8 h9, nTellM_ne _ _ _ _ _ _ _ h6 h10]
  · rw [nTellM_ne _ _ _ _ _ _ _ h6 h10]
theorem nDel_10 (N R : nT) (p : Nat) : (nDel N R p).1 10 0 = N.1 10 0 + 1 := by
  unfold nDel
  split
  · rw [nApply_ne _ _ _ _ _ (by omega) (by omega), nTellM_10]
  · rw [nTellM_10]
theorem nDel_6 (N R : nT) (p : Nat) : (nDel N R p).1 6 0 = p := by
  unfold nDel
  split
  · rw [nApply_ne _ _ _ _ _ (by omega) (by omega), nTellM_6]
  · rw [nTellM_6]
theorem nDel_8 (N R : nT) (p : Nat) : (nDel N R p).1 8 0 ≤ N.1 8 0 + 1 := by
  unfold nDel
  split
  · rw [nApply_8, nTellM_ne _ _ _ _ _ _ _ (by omega) (by omega)]
    exact Nat.le_refl _
  · rw [nTellM_ne _ _ _ _ _ _ _ (by omega) (by omega)]
    omega
/-- bounds of a ring's places -/
def rOk (R : nT) : Prop := R.1 0 0 < 2 ^ 20 ∧ ∀ p, p < 101 → R.1 6 p < 8 ∧ R.1 7 p < 16 ∧ R.1 8 p < 2
theorem prim_ne {N M R : nT} (h : M.1 4 0 = N.1 4 0) : prim M R = prim N R := by unfold prim; rw [h]
section
variable {Z : zZ} {S0 S : zS} {ad : Nat → Nat → Nat} {n w : Nat} {G : gT} {i : Nat} {N : nT}
theorem c_recv (H : zCV Z S0 ad n w S (gN G i N)) (hi : i < n) {R : nT} (hR : G.2 (N.1 2 0) = R) (hR0 : R.1 0 0 < 2 ^ 20) (h4 : N.1 4 0 < 2 ^ 30) {p b : Nat} (hp : p < 101) (h8 : R.1 8 p < 2 ^ 30) (hm : zMg Z S b (R.1 6 p) (R.1 7 p) (R.2 6 p) (R.1 8 p)) {Qp : zS → Prop} (k : ∀ S', zCV Z S0 ad n w S' (gN G i (nRecv N R p)) → Qp S') : w_X2_receive Z (ad 3 i) (nI p) b S Qp := by
  subst hR
  obtain ⟨⟨d1, d2, d3, d4, d5⟩, -, ⟨f1, f2, f3, f4, f5, f6, f7⟩, -, ⟨e1, e2⟩⟩ := zCV_nd H hi
  unfold w_X2_receive
  refine ⟨d1, ad 11 i, d5, e1, hm.1, by rw [e2]; exact vp_in_nI hp (by omega), fun S7 e7 => ?_⟩
  rw [nI_clamp (by omega)] at e7
  have H7 := cn_H H hi (p := p) 1 (some b) (fun q => absurd q (by omega)) (fun _ => ⟨b, rfl, hm⟩)
  rw [← e7] at H7
  have m7 := zMg_mv H H7 hm
  have hpr : prim (nsI N 16 p 1) (G.2 (N.1 2 0)) = prim N (G.2 (N.1 2 0)) := prim_ne (n1_ne _ _ _ _ (by omega))
  rw [m7.2.2.2.2]
  have e0 : (nI ((G.2 (N.1 2 0)).1 8 p) = 0) ↔ (G.2 (N.1 2 0)).1 8 p = 0 := nI_eq (by omega) (by omega : 0 < 2 ^ 31)
  rw [e0]
  refine ⟨fun q => ?_, fun q => ?_⟩
  · refine k S7 ?_
    unfold nRecv
    rw [if_neg (fun r => r.1 q)]
    exact H7
  · have r2 : (nsI N 16 p 1).1 2 0 = N.1 2 0 := n1_ne _ _ _ _ (by omega)
    have r4 : (nsI N 16 p 1).1 4 0 = N.1 4 0 := n1_ne _ _ _ _ (by omega)
    refine c_prim H7 hi (by rw [r2]; omega) (by rw [r4]; exact h4) ?_
    rw [r2, hpr]
    refine ⟨fun q2 => ?_, fun q2 => ?_⟩
    · have hf : prim N (G.2 (N.1 2 0)) = false := by
        by_cases e : prim N (G.2 (N.1 2 0)) = true
        · rw [if_pos e] at q2; exact absurd q2 (by decide)
        · simpa using e
      refine k S7 ?_
      unfold nRecv
      rw [hf, if_neg (fun r => absurd r.2 (by decide))]
      exact H7
    · have hf : prim N (G.2 (N.1 2 0)) = true := by
        by_cases e : prim N (G.2 (N.1 2 0)) = true
        · exact e
        · rw [if_neg e] at q2; exact absurd rfl q2
      refine ⟨ad 6 i, d3, f1, ad 8 i, f3, f6, by rw [f7]; exact vp_in_nI hp (by omega), fun S17 e17 => k S17 ?_⟩
      rw [nI_clamp (by omega)] at e17
      have H17 := cn_K H7 hi (p := p) 1 ((G.2 (N.1 2 0)).1 7 p) ((G.2 (N.1 2 0)).2 6 p) (some b) (fun q => absurd q (by omega)) (fun _ => ⟨b, rfl, m7.1, m7.2.2.1, m7.2.2.2.1⟩)
      rw [← e17] at H17
      unfold nRecv
      rw [if_pos ⟨q, hf⟩]
      exact H17
/-- a node delivers one place -/
theorem c_del1 (H : zCV Z S0 ad n w S (gN G i N)) (hi : i < n) {R : nT} (hR : G.2 (N.1 2 0) = R) (hok : rOk R) (h4 : N.1 4 0 < 2 ^ 30) (h10 : N.1 10 0 < 2 ^ 30) (h8 : N.1 8 0 < 2 ^ 30) {p b : Nat} (hp : p < 101) (hm : zMg Z S b (R.1 6 p) (R.1 7 p) (R.2 6 p) (R.1 8 p)) {Qp : Int32 → zS → Prop} {K : zS → Prop} {rec : Int32 → zS → Prop} {x1 : Int32} (k : ∀ S', zCV Z S0 ad n w S' (gN G i (nDel N R p)) → rec (nI (p + 1)) S') : wJ_X2_deliverInTurn_44 Z Qp K rec (ad 3 i) x1 (nI p) b S := by
  subst hR
  obtain ⟨⟨d1, d2, d3, d4, d5⟩, -, ⟨f1, -⟩, -, -⟩ := zCV_nd H hi
  obtain ⟨o1, o2⟩ := hok
  obtain ⟨o6, o7, o8⟩ := o2 p hp
  unfold wJ_X2_deliverInTurn_44
  refine ⟨d1, c_tell H hi (by omega) (by omega) (by omega) (by omega) h10 hm (fun S14 H14 => ?_)⟩
  have m14 := zMg_mv H H14 hm
  refine ⟨m14.1, ?_⟩
  rw [m14.2.2.2.2]
  have e0 : (nI ((G.2 (N.1 2 0)).1 8 p) = 0) ↔ (G.2 (N.1 2 0)).1 8 p = 0 := nI_eq (by omega) (by omega : 0 < 2 ^ 31)
  rw [e0, nI_1]
  have t2 := nTellM_ne N ((G.2 (N.1 2 0)).1 0 0) p ((G.2 (N.1 2 0)).1 6 p) ((G.2 (N.1 2 0)).1 7 p) ((G.2 (N.1 2 0)).2 6 p) (f := 2) 0 (by omega) (by omega)
  have t4 := nTellM_ne N ((G.2 (N.1 2 0)).1 0 0) p ((G.2 (N.1 2 0)).1 6 p) ((G.2 (N.1 2 0)).1 7 p) ((G.2 (N.1 2 0)).2 6 p) (f := 4) 0 (by omega) (by omega)
  have t8 := nTellM_ne N ((G.2 (N.1 2 0)).1 0 0) p ((G.2 (N.1 2 0)).1 6 p) ((G.2 (N.1 2 0)).1 7 p) ((G.2 (N.1 2 0)).2 6 p) (f := 8) 0 (by omega) (by omega)
  refine ⟨fun q y16 e16 => ?_, fun q => ?_⟩
  · subst e16
    refine k S14 ?_
    unfold nDel
    rw [if_neg (fun r => r.1 q)]
    exact H14
  · refine c_prim H14 hi (by rw [t2]; omega) (by rw [t4]; exact h4) ?_
    rw [t2, prim_ne t4]
    refine ⟨fun q2 y e => ?_, fun q2 => ?_⟩
    · subst e
      have hf : prim N (G.2 (N.1 2 0)) = false := by
        by_cases e : prim N (G.2 (N.1 2 0)) = true
        · rw [if_pos e] at q2; exact absurd q2 (by decide)
        · simpa using e
      refine k S14 ?_
      unfold nDel
      rw [hf, if_neg (fun r => absurd r.2 (by decide))]
      exact H14
    · have hf : prim N (G.2 (N.1 2 0)) = true := by
        by_cases e : prim N (G.2 (N.1 2 0)) = true
        · exact e
        · rw [if_neg e] at q2; exact absurd rfl q2
      refine ⟨ad 6 i, d3, f1, c_apply H14 hi (by omega) (by rw [t8]; exact h8) ⟨m14.1, m14.2.2.1, m14.2.2.2.1⟩ (fun S23 H23 y e => ?_)⟩
      subst e
      refine k S23 ?_
      unfold nDel
      rw [if_pos ⟨q, hf⟩]
      exact H23
theorem dlv_facts (R : nT) : ∀ (k : Nat) (N : nT), (dlv R k N).1 10 0 ≤ N.1 10 0 + k ∧ (dlv R k N).1 8 0 ≤ N.1 8 0 + k ∧ ∀ f j, f ≠ 6 → f ≠ 10 → f ≠ 8 → f ≠ 9 → (dlv R k N).1 f j = N.1 f j := by
  intro k
  induction k with
  | zero => intro N; exact ⟨Nat.le_refl _, Nat.le_refl _, fun _ _ _ _ _ _ => rfl⟩
  | succ k ih =>
    intro N
    unfold dlv
    split
    · obtain ⟨a, b, c⟩ := ih (nDel N R (100 - k))
      have h10 := nDel_10 N R (100 - k)
      have h8 := nDel_8 N R (100 - k)
      exact ⟨by omega, by omega, fun f j h6 h10 h8 h9 => (c f j h6 h10 h8 h9).trans (nDel_ne N R _ j h6 h10 h8 h9)⟩
    · exact ⟨by omega, by omega, fun _ _ _ _ _ _ => rfl⟩
theorem dlv_6 (R : nT) : ∀ (k : Nat) (N : nT), k ≤ 100 → N.1 6 0 + k = 100 → N.1 6 0 ≤ (dlv R k N).1 6 0 ∧ (dlv R k N).1 6 0 ≤ 100 := by
  intro k
  induction k with
  | zero => intro N _ h; exact ⟨Nat.le_refl _, by show N.1 6 0 ≤ 100; omega⟩
  | succ k ih =>
    intro N hk h
    unfold dlv
    split
    · have h6 := nDel_6 N R (100 - k)
      obtain ⟨a, b⟩ := ih (nDel N R (100 - k)) (by omega) (by omega)
      exact ⟨by omega, b⟩
    · exact ⟨Nat.le_refl _, by omega⟩
/-- a node delivers in turn -/
theorem c_dlv (H : zCV Z S0 ad n w S (gN G i N)) (hi : i < n) {R : nT} (hR : G.2 (N.1 2 0) = R) (hok : rOk R) (h4 : N.1 4 0 < 2 ^ 30) (h6 : N.1 6 0 ≤ 100) (h7 : N.1 7 0 ≤ 100) (h10 : N.1 10 0 < 2 ^ 20) (h8 : N.1 8 0 < 2 ^ 20) {Qp : Int32 → zS → Prop} (k : ∀ S', zCV Z S0 ad n w S' (gN G i (dlv R (100 - N.1 6 0) N)) → Qp (nI ((dlv R (100 - N.1 6 0) N).1 6 0 - N.1 6 0)) S') : w_X2_deliverInTurn Z (ad 3 i) S Qp := by
  obtain ⟨⟨d1, d2, d3, d4, d5⟩, -, -, -, ⟨e1, e2⟩⟩ := zCV_nd H hi
  have a6 : zI S (ad 3 i) 11 = nI (N.1 6 0) := cv_I H hi 6 (by omega) (by omega)
  unfold w_X2_deliverInTurn
  refine ⟨d1, fun y2 ey2 y3 ey3 => ?_⟩
  rw [a6] at ey2
  subst ey2
  rw [nI_1] at ey3
  subst ey3
  have hfin := dlv_6 R (100 - N.1 6 0) N (by omega) (by omega)
  have hfc := dlv_facts R (100 - N.1 6 0) N
  have hend : ∀ S', zCV Z S0 ad n w S' (gN G i (dlv R (100 - N.1 6 0) N)) → Qp ((zI S' (ad 3 i) 11) - nI (N.1 6 0)) S' := fun S' H' => by
    have a6' : zI S' (ad 3 i) 11 = nI ((dlv R (100 - N.1 6 0) N).1 6 0) := cv_I H' hi 6 (by omega) (by omega)
    rw [a6', pk_sub hfin.1]
    exact k S' H'
  refine zlp2 (fun x S' => ∃ k' N', k' ≤ 100 ∧ x = nI (101 - k') ∧ zCV Z S0 ad n w S' (gN G i N') ∧ dlv R k' N' = dlv R (100 - N.1 6 0) N ∧ N'.1 2 0 = N.1 2 0 ∧ N'.1 4 0 = N.1 4 0 ∧ N'.1 7 0 = N.1 7 0 ∧ N'.1 10 0 + k' < 2 ^ 21 ∧ N'.1 8 0 + k' < 2 ^ 21) (fun x _ => 102 - x.toNatClampNeg) (fun rec x S' hI hrec => ?_) _ S ⟨100 - N.1 6 0, N, by omega, by congr 1; omega, H, rfl, rfl, rfl, rfl, by omega, by omega⟩
  obtain ⟨k', N', hk, rfl, H', hd, g2, g4, g7, g10, g8⟩ := hI
  unfold wb_X2_deliverInTurn_9
  have hle : (100 : Int32) < nI (101 - k') ↔ 100 < 101 - k' := nI_ltI (a := 100) (by omega) (by omega)
  rw [hle]
  refine ⟨fun q => ?_, fun q => ?_⟩
  · have : k' = 0 := by omega
    subst this
    refine hend S' ?_
    rw [← hd]
    exact H'
  · obtain ⟨j, rfl⟩ : ∃ j, k' = j + 1 := ⟨k' - 1, by omega⟩
    have e3 : 101 - (j + 1) = 100 - j := by omega
    rw [e3, nI_clamp (by omega)]
    refine ⟨d1, ad 11 i, d5, e1, by rw [e2]; exact vp_in_nI (by omega) (by omega), fun r9 e9 => ?_⟩
    have h := (cv_n H' hi).1.2.2.2.2.2 (100 - j) (by omega)
    rw [g2, hR] at h
    have hstop : ¬ (N'.1 16 (100 - j) ≠ 0 ∧ (R.1 8 (100 - j) = 0 ∨ 100 - j ≤ N'.1 7 0)) → Qp ((zI S' (ad 3 i) 11) - nI (N.1 6 0)) S' := fun hn => by
      refine hend S' ?_
      rw [← hd]
      unfold dlv
      rw [if_neg hn]
      exact H'
    refine ⟨fun q2 => ?_, fun b q2 => ?_⟩
    · refine hstop (fun hn => ?_)
      obtain ⟨b, b1, -⟩ := h.2 hn.1
      rw [← e9, q2] at b1
      exact absurd b1 (by simp)
    · have h0 : N'.1 16 (100 - j) ≠ 0 := fun e => by
        rw [← e9, q2] at h
        exact absurd (h.1 e) (by simp)
      obtain ⟨b', b1, m⟩ := h.2 h0
      have : b' = b := by rw [← e9, q2] at b1; exact (Option.some.inj b1).symm
      subst this
      obtain ⟨o1, o2⟩ := hok
      obtain ⟨o6, o7, o8⟩ := o2 (100 - j) (by omega)
      have hgo : (R.1 8 (100 - j) = 0 ∨ 100 - j ≤ N'.1 7 0) → wJ_X2_deliverInTurn_44 Z Qp (fun S31 => Qp ((zI S31 (ad 3 i) 11) - nI (N.1 6 0)) S31) rec (ad 3 i) (nI (N.1 6 0)) (nI (100 - j)) b' S' := fun ho => by
        refine c_del1 H' hi (by rw [g2]; exact hR) ⟨o1, o2⟩ (by omega) (by omega) (by omega) (p := 100 - j) (by omega) m (fun S'' H'' => ?_)
        have hx : nI (100 - j + 1) = nI (101 - j) := by congr 1; omega
        rw [hx]
        refine hrec _ _ ⟨j, nDel N' R (100 - j), by omega, rfl, H'', ?_, ?_, ?_, ?_, ?_, ?_⟩ ?_
        · rw [← hd]
          show _ = (if N'.1 16 (100 - j) ≠ 0 ∧ (R.1 8 (100 - j) = 0 ∨ 100 - j ≤ N'.1 7 0) then dlv R j (nDel N' R (100 - j)) else N')
          rw [if_pos ⟨h0, ho⟩]
        · rw [nDel_ne _ _ _ _ (by omega) (by omega) (by omega) (by omega)]; exact g2
        · rw [nDel_ne _ _ _ _ (by omega) (by omega) (by omega) (by omega)]; exact g4
        · rw [nDel_ne _ _ _ _ (by omega) (by omega) (by omega) (by omega)]; exact g7
        · rw [nDel_10]; omega
        · have := nDel_8 N' R (100 - j); omega
        · rw [nI_clamp (by omega), nI_clamp (by omega)]; omega
      have e0 : (nI (R.1 8 (100 - j)) = 0) ↔ R.1 8 (100 - j) = 0 := nI_eq (by omega) (by omega : 0 < 2 ^ 31)
      have a7 : zI S' (ad 3 i) 12 = nI (N'.1 7 0) := cv_I H' hi 7 (by omega) (by omega)
      have e7 : (nI (100 - j) ≤ nI (N'.1 7 0)) ↔ 100 - j ≤ N'.1 7 0 := nI_leI (by omega) (by omega)
      refine ⟨m.1, ?_⟩
      rw [m.2.2.2.2, e0, a7, e7]
      refine ⟨fun q3 => hgo (Or.inl q3), fun q3 => ⟨fun q4 => hgo (Or.inr q4), fun q4 => hstop (fun hn => ?_)⟩⟩
      rcases hn.2 with r | r
      · exact q3 r
      · exact q4 r
theorem dlf_facts (R : nT) (t : Nat) : ∀ (k : Nat) (g : Bool) (N : nT), (dlf R t k g N).1 10 0 ≤ N.1 10 0 + k ∧ ∀ f j, f ≠ 6 → f ≠ 10 → (dlf R t k g N).1 f j = N.1 f j := by
  intro k
  induction k with
  | zero => intro g N; exact ⟨Nat.le_refl _, fun _ _ _ _ => rfl⟩
  | succ k ih =>
    intro g N
    unfold dlf
    split
    · obtain ⟨a, c⟩ := ih true N
      exact ⟨by omega, c⟩
    · split
      · obtain ⟨a, c⟩ := ih g (nTellM N (R.1 0 0) (100 - k) (R.1 6 (100 - k)) (R.1 7 (100 - k)) (R.2 6 (100 - k)))
        rw [nTellM_10] at a
        exact ⟨by omega, fun f j h6 h10 => (c f j h6 h10).trans (nTellM_ne _ _ _ _ _ _ _ h6 h10)⟩
      · obtain ⟨a, c⟩ := ih g N
        exact ⟨by omega, c⟩
/-- a node delivers what is left -/
theorem c_dlf (H : zCV Z S0 ad n w S (gN G i N)) (hi : i < n) {R : nT} (hR : G.2 (N.1 2 0) = R) (hok : rOk R) (h6 : N.1 6 0 ≤ 100) (h10 : N.1 10 0 < 2 ^ 21) {t : Nat} {Qp : zS → Prop} (k : ∀ S', zCV Z S0 ad n w S' (gN G i (dlf R t (100 - N.1 6 0) false N)) → Qp S') : w_X2_deliverLeft Z (ad 3 i) (nI t) S Qp := by
  obtain ⟨⟨d1, d2, d3, d4, d5⟩, -, -, -, ⟨e1, e2⟩⟩ := zCV_nd H hi
  have a6 : zI S (ad 3 i) 11 = nI (N.1 6 0) := cv_I H hi 6 (by omega) (by omega)
  unfold w_X2_deliverLeft
  refine ⟨d1, fun y3 ey3 => ?_⟩
  rw [a6, nI_1] at ey3
  subst ey3
  refine zlp3 (fun y x S' => ∃ k' g N', k' ≤ 100 ∧ x = nI (101 - k') ∧ y = (if g then 1 else 0) ∧ zCV Z S0 ad n w S' (gN G i N') ∧ dlf R t k' g N' = dlf R t (100 - N.1 6 0) false N ∧ N'.1 2 0 = N.1 2 0 ∧ N'.1 10 0 + k' < 2 ^ 22) (fun _ x _ => 102 - x.toNatClampNeg) (fun rec y x S' hI hrec => ?_) 0 _ S ⟨100 - N.1 6 0, false, N, by omega, by congr 1; omega, rfl, H, rfl, rfl, by omega⟩
  obtain ⟨k', g, N', hk, rfl, rfl, H', hd, g2, g10⟩ := hI
  unfold wb_X2_deliverLeft_9
  have hle : (100 : Int32) < nI (101 - k') ↔ 100 < 101 - k' := nI_ltI (a := 100) (by omega) (by omega)
  rw [hle]
  refine ⟨fun q => ?_, fun q => ?_⟩
  · have : k' = 0 := by omega
    subst this
    refine k S' ?_
    rw [← hd]
    exact H'
  · obtain ⟨j, rfl⟩ : ∃ j, k' = j + 1 := ⟨k' - 1, by omega⟩
    have e3 : 101 - (j + 1) = 100 - j := by omega
    rw [e3, nI_clamp (by omega)]
    refine ⟨d1, ad 11 i, d5, e1, by rw [e2]; exact vp_in_nI (by omega) (by omega), fun r8 e8 => ?_⟩
    have h := (cv_n H' hi).1.2.2.2.2.2 (100 - j) (by omega)
    rw [g2, hR] at h
    have hx : nI (100 - j) + 1 = nI (101 - j) := by rw [nI_1]; congr 1; omega
    have hμ : 102 - (nI (101 - j)).toNatClampNeg < 102 - (nI (101 - (j + 1))).toNatClampNeg := by rw [nI_clamp (by omega), nI_clamp (by omega)]; omega
    rw [hx]
    refine ⟨fun b q2 => ?_, fun q2 y17 e17 => ?_⟩
    · have h0 : N'.1 16 (100 - j) ≠ 0 := fun e => by
        rw [← e8, q2] at h
        exact absurd (h.1 e) (by simp)
      obtain ⟨b', b1, m⟩ := h.2 h0
      have : b' = b := by rw [← e8, q2] at b1; exact (Option.some.inj b1).symm
      subst this
      obtain ⟨o1, o2⟩ := hok
      obtain ⟨o6, o7, o8⟩ := o2 (100 - j) (by omega)
      have hgo : (g = false ∨ t.testBit (R.1 6 (100 - j)) = true) → wJ_X2_deliverLeft_49 Z Qp (fun S23 => Qp S23) rec (ad 3 i) (nI t) (if g then 1 else 0) (nI (100 - j)) b' S' := fun ho => by
        unfold wJ_X2_deliverLeft_49
        refine ⟨d1, c_tell H' hi (by omega) (by omega) (by omega) (by rw [g2, hR]; omega) (by omega) m (fun S12 H12 y13 e13 => ?_)⟩
        rw [hx] at e13
        subst e13
        rw [g2, hR] at H12
        refine hrec _ _ _ ⟨j, g, _, by omega, rfl, rfl, H12, ?_, ?_, ?_⟩ hμ
        · rw [← hd]
          show _ = (if N'.1 16 (100 - j) = 0 then dlf R t j true N' else if g = false ∨ t.testBit (R.1 6 (100 - j)) = true then dlf R t j g (nTellM N' (R.1 0 0) (100 - j) (R.1 6 (100 - j)) (R.1 7 (100 - j)) (R.2 6 (100 - j))) else dlf R t j g N')
          rw [if_neg h0, if_pos ho]
        · rw [nTellM_ne _ _ _ _ _ _ _ (by omega) (by omega)]; exact g2
        · rw [nTellM_10]; omega
      refine ⟨fun q3 => hgo (Or.inl ?_), fun q3 => ⟨m.1, ?_⟩⟩
      · cases g
        · rfl
        · exact absurd q3 (by decide)
      · rw [m.2.1]
        unfold w_X6_isIn
        rw [isc (nI t) (by omega), bt_nI t (by omega)]
        refine ⟨fun q4 => ⟨fun _ y e => ?_, fun q5 => absurd rfl q5⟩, fun q4 => ⟨fun q5 => absurd q5 (by decide), fun _ => hgo (Or.inr (by simpa using q4))⟩⟩
        subst e
        refine hrec _ _ _ ⟨j, g, N', by omega, rfl, rfl, H', ?_, g2, by omega⟩ hμ
        rw [← hd]
        show _ = (if N'.1 16 (100 - j) = 0 then dlf R t j true N' else if g = false ∨ t.testBit (R.1 6 (100 - j)) = true then dlf R t j g (nTellM N' (R.1 0 0) (100 - j) (R.1 6 (100 - j)) (R.1 7 (100 - j)) (R.2 6 (100 - j))) else dlf R t j g N')
        have hg : g ≠ false := fun e => by subst e; exact q3 rfl
        rw [if_neg h0, if_neg (fun r => by rcases r with r | r; exact hg r; rw [q4] at r; exact Bool.noConfusion r)]
    · subst e17
      have h0 : N'.1 16 (100 - j) = 0 := by
        by_cases e : N'.1 16 (100 - j) = 0
        · exact e
        · obtain ⟨b, b1, -⟩ := h.2 e
          rw [← e8, q2] at b1
          exact absurd b1 (by simp)
      refine hrec _ _ _ ⟨j, true, N', by omega, rfl, rfl, H', ?_, g2, by omega⟩ hμ
      rw [← hd]
      show _ = (if N'.1 16 (100 - j) = 0 then dlf R t j true N' else _)
      rw [if_pos h0]
end
