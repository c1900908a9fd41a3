/-! what waits: put, taken; a ring begins -/
def nPut (N : nT) (key : Nat) (v : Int64) (safe : Nat) : nT := nsI (nsJ (nsI (nsI N 12 (N.1 11 0) key) 13 (N.1 11 0) safe) 12 (N.1 11 0) v) 11 0 (N.1 11 0 + 1)
def nShift (N : nT) : nT := (fun f j => if f = 11 ∧ j = 0 then N.1 11 0 - 1 else if f = 12 ∨ f = 13 then N.1 f (j + 1) else N.1 f j, fun f j => if f = 12 then N.2 12 (j + 1) else N.2 f j)
def nZero (N : nT) (f q : Nat) : nT := (fun x j => if x = f ∧ j < q then 0 else N.1 x j, N.2)
theorem nZero_0 (N : nT) (f : Nat) : nZero N f 0 = N := by
  refine Prod.ext (funext fun x => funext fun j => ?_) rfl
  show (if x = f ∧ j < 0 then 0 else N.1 x j) = _
  rw [if_neg (fun q => by omega)]
theorem nZero_s (N : nT) (f q : Nat) : nsI (nZero N f q) f q 0 = nZero N f (q + 1) := by
  refine Prod.ext (funext fun x => funext fun j => ?_) rfl
  show (if x = f ∧ j = q then 0 else if x = f ∧ j < q then 0 else N.1 x j) = if x = f ∧ j < q + 1 then 0 else N.1 x j
  by_cases h1 : x = f ∧ j = q
  · rw [if_pos h1, if_pos ⟨h1.1, by omega⟩]
  · rw [if_neg h1]
    by_cases h2 : x = f ∧ j < q
    · rw [if_pos h2, if_pos ⟨h2.1, by omega⟩]
    · rw [if_neg h2, if_neg (fun q => by omega)]
def rBegin (R : nT) (num s : Nat) : nT := nZero (nZero (nsI (nsI (nsI (nsI R 0 0 num) 1 0 s) 2 0 (ls s + 1)) 3 0 0) 4 101) 5 8
section
variable {Z : zZ} {S0 S : zS} {ad : Nat → Nat → Nat} {n w : Nat} {G : gT} {i : Nat} {N : nT}
theorem cr_R {R : nT} {r f : Nat} (H : zCV Z S0 ad n w S (gR G r R)) (hr : zri n r) (hf : f < 4) (v : Nat) (x : Int32) (hx : x = if f = 2 then nI v - 1 else nI v) : zCV Z S0 ad n w (zsI S (ad 12 r) (f + 2) x) (gR G r (nsI R f 0 v)) := by
  have h := cs_R H hr hf v x hx
  rw [gR_gR, g2_Rs] at h
  exact h
theorem cr_Rq {R : nT} {r j : Nat} (H : zCV Z S0 ad n w S (gR G r R)) (hr : zri n r) (v : Nat) : zCV Z S0 ad n w (zsI S (ad 13 r) j (nI v)) (gR G r (nsI R 4 j v)) := by
  have h := cs_Rq H hr (j := j) v
  rw [gR_gR, g2_Rs] at h
  exact h
theorem cr_Rf {R : nT} {r j : Nat} (H : zCV Z S0 ad n w S (gR G r R)) (hr : zri n r) (v : Nat) : zCV Z S0 ad n w (zsI S (ad 14 r) j (nI v)) (gR G r (nsI R 5 j v)) := by
  have h := cs_Rf H hr (j := j) v
  rw [gR_gR, g2_Rs] at h
  exact h
theorem c_begin (H : zCV Z S0 ad n w S G) {r : Nat} (hr : zri n r) {num s : Nat} (hs : ls s < 8) {Qp : zS → Prop} (k : ∀ S', zCV Z S0 ad n w S' (gR G r (rBegin (G.2 r) num s)) → Qp S') : w_X5_begin Z (ad 12 r) (nI num) (nI s) S Qp := by
  obtain ⟨hrk, q0, q1, p1, p2, q2, q3⟩ := zCV_rg H hr
  have H0 : zCV Z S0 ad n w S (gR G r (G.2 r)) := by rw [gR_self]; exact H
  unfold w_X5_begin
  refine ⟨hrk, fun S2 e2 S3 e3 => c_leastOf (fun q => absurd hs (by omega)) (fun _ S6 e6 S7 e7 => ?_)⟩
  have H2 := cr_R H0 hr (f := 0) (by omega) num (nI num) rfl
  have e2' : S2 = zsI S (ad 12 r) (0 + 2) (nI num) := e2
  rw [← e2'] at H2
  have H3 := cr_R H2 hr (f := 1) (by omega) s (nI s) rfl
  have e3' : S3 = zsI S2 (ad 12 r) (1 + 2) (nI s) := e3
  rw [← e3'] at H3
  have H6 := cr_R H3 hr (f := 2) (by omega) (ls s + 1) (nI (ls s)) (by rw [if_pos rfl]; exact (nI_pred _).symm)
  have e6' : S6 = zsI S3 (ad 12 r) (2 + 2) (nI (ls s)) := e6
  rw [← e6'] at H6
  have H7 := cr_R H6 hr (f := 3) (by omega) 0 0 rfl
  have e7' : S7 = zsI S6 (ad 12 r) (3 + 2) 0 := e7
  rw [← e7', ← nZero_0 (nsI _ 3 0 0) 4] at H7
  generalize hR1 : nsI (nsI (nsI (nsI (G.2 r) 0 0 num) 1 0 s) 2 0 (ls s + 1)) 3 0 0 = R1 at H7
  have hloop2 : ∀ S', zCV Z S0 ad n w S' (gR G r (nZero R1 4 101)) → wL_X5_begin_46 Z (ad 12 r) Qp (fun S25 => Qp S25) 0 S' := fun S' H' => by
    rw [← nZero_0 (nZero R1 4 101) 5] at H'
    refine zlp2 (fun x S' => ∃ k', k' ≤ 8 ∧ x = nI k' ∧ zCV Z S0 ad n w S' (gR G r (nZero (nZero R1 4 101) 5 k'))) (fun x _ => 9 - x.toNatClampNeg) (fun rec x S' hI hrec => ?_) _ S' ⟨0, by omega, rfl, H'⟩
    obtain ⟨k', hk, rfl, H'⟩ := hI
    unfold wb_X5_begin_46
    have hle : (8 : Int32) ≤ nI k' ↔ 8 ≤ k' := nI_leI (a := 8) (by omega) (by omega)
    rw [hle, nI_1, nI_clamp (by omega)]
    refine ⟨fun q => ?_, fun q => ⟨hrk, ad 14 r, q1, q2, by rw [q3]; exact vp_in_nI (by omega) (by omega), fun S8 e8 y e => ?_⟩⟩
    · have : k' = 8 := by omega
      subst this
      refine k S' ?_
      unfold rBegin
      rw [hR1]
      exact H'
    · subst e
      have H8 := cr_Rf H' hr (j := k') 0
      have e8' : S8 = zsI S' (ad 14 r) k' (nI 0) := e8
      rw [← e8', nZero_s] at H8
      refine hrec _ _ ⟨k' + 1, by omega, rfl, H8⟩ ?_
      rw [nI_clamp (by omega), nI_clamp (by omega)]
      omega
  refine zlp2 (fun x S' => ∃ k', k' ≤ 101 ∧ x = nI k' ∧ zCV Z S0 ad n w S' (gR G r (nZero R1 4 k'))) (fun x _ => 102 - x.toNatClampNeg) (fun rec x S' hI hrec => ?_) _ S7 ⟨0, by omega, rfl, H7⟩
  obtain ⟨k', hk, rfl, H'⟩ := hI
  unfold wb_X5_begin_25
  have hle : (100 : Int32) < nI k' ↔ 100 < k' := nI_ltI (a := 100) (by omega) (by omega)
  rw [hle, nI_1, nI_clamp (by omega)]
  refine ⟨fun q => ?_, fun q => ⟨hrk, ad 13 r, q0, p1, by rw [p2]; exact vp_in_nI (by omega) (by omega), fun S8 e8 y e => ?_⟩⟩
  · have : k' = 101 := by omega
    subst this
    exact hloop2 S' H'
  · subst e
    have H8 := cr_Rq H' hr (j := k') 0
    have e8' : S8 = zsI S' (ad 13 r) k' (nI 0) := e8
    rw [← e8', nZero_s] at H8
    refine hrec _ _ ⟨k' + 1, by omega, rfl, H8⟩ ?_
    rw [nI_clamp (by omega), nI_clamp (by omega)]
    omega
theorem c_isFull (H : zCV Z S0 ad n w S (gN G i N)) (hi : i < n) (hB : N.1 11 0 < 2 ^ 30) {Qp : Int32 → zS → Prop} (k : Qp (if N.1 11 0 < 12 then 0 else 1) S) : w_X3_isFull Z (ad 4 i) S Qp := by
  obtain ⟨-, ⟨p1, p2, p3, p4⟩, -, -, -⟩ := zCV_nd H hi
  have e0 : zI S (ad 4 i) 1 = nI (N.1 11 0) := cv_I H hi 11 (by omega) (by omega)
  have hl : (nI (N.1 11 0) < 12) ↔ N.1 11 0 < 12 := nI_ltI (b := 12) (by omega) (by omega)
  unfold w_X3_isFull
  rw [e0, hl]
  refine ⟨p1, fun q => ?_, fun q => ?_⟩
  · rw [if_pos q] at k; exact k
  · rw [if_neg q] at k; exact k
theorem c_drop (H : zCV Z S0 ad n w S (gN G i N)) (hi : i < n) {Qp : zS → Prop} (k : ∀ S', zCV Z S0 ad n w S' (gN G i (nsI N 11 0 0)) → Qp S') : w_X3_drop Z (ad 4 i) S Qp := by
  obtain ⟨-, ⟨p1, p2, p3, p4⟩, -, -, -⟩ := zCV_nd H hi
  unfold w_X3_drop
  refine ⟨p1, fun S2 e2 => k S2 ?_⟩
  have H2 := cn_I H hi 11 (by omega) (by omega) (v := 0) (by omega)
  have e2' : S2 = zsI S (ad (cT 11) i) (cS 11) (nI 0) := e2
  rw [← e2'] at H2
  exact H2
end
