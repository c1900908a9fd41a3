/-! what waits is sent -/
def rPut (R : nT) (i key : Nat) (v : Int64) (safe : Nat) : nT := nsI (nsI (nsI (nsJ (nsI R 6 (R.1 3 0 + 1) i) 6 (R.1 3 0 + 1) v) 7 (R.1 3 0 + 1) key) 8 (R.1 3 0 + 1) safe) 3 0 (R.1 3 0 + 1)
theorem rPut_ne (R : nT) (i key : Nat) (v : Int64) (safe : Nat) {f : Nat} (j : Nat) (h3 : f ≠ 3) (h6 : f ≠ 6) (h7 : f ≠ 7) (h8 : f ≠ 8) : (rPut R i key v safe).1 f j = R.1 f j := by
  unfold rPut
  rw [n1_ne _ _ _ _ h3, n1_ne _ _ _ _ h8, n1_ne _ _ _ _ h7, n1_sJ, n1_ne _ _ _ _ h6]
theorem rPut_3 (R : nT) (i key : Nat) (v : Int64) (safe : Nat) : (rPut R i key v safe).1 3 0 = R.1 3 0 + 1 := n1_eq _ _ _ _
theorem rPut_p (R : nT) (i key : Nat) (v : Int64) (safe : Nat) (p : Nat) : (rPut R i key v safe).1 6 p = (if p = R.1 3 0 + 1 then i else R.1 6 p) ∧ (rPut R i key v safe).1 7 p = (if p = R.1 3 0 + 1 then key else R.1 7 p) ∧ (rPut R i key v safe).2 6 p = (if p = R.1 3 0 + 1 then v else R.2 6 p) ∧ (rPut R i key v safe).1 8 p = (if p = R.1 3 0 + 1 then safe else R.1 8 p) := by
  unfold rPut
  refine ⟨?_, ?_, ?_, ?_⟩
  · rw [n1_ne _ _ _ _ (by omega), n1_ne _ _ _ _ (by omega), n1_ne _ _ _ _ (by omega), n1_sJ, n1_sI]
    by_cases e : p = R.1 3 0 + 1 <;> simp [e]
  · rw [n1_ne _ _ _ _ (by omega), n1_ne _ _ _ _ (by omega), n1_sI]
    by_cases e : p = R.1 3 0 + 1
    · simp [e]
    · rw [if_neg (fun z => e z.2), if_neg e, n1_sJ, n1_ne _ _ _ _ (by omega)]
  · rw [n2_sI, n2_sI, n2_sI, n2_sJ]
    by_cases e : p = R.1 3 0 + 1
    · simp [e]
    · rw [if_neg (fun z => e z.2), if_neg e, n2_sI]
  · rw [n1_ne _ _ _ _ (by omega), n1_sI]
    by_cases e : p = R.1 3 0 + 1
    · simp [e]
    · rw [if_neg (fun z => e z.2), if_neg e, n1_ne _ _ _ _ (by omega), n1_sJ, n1_ne _ _ _ _ (by omega)]
section
variable {Z : zZ} {S0 S : zS} {ad : Nat → Nat → Nat} {n w : Nat} {G : gT} {i : Nat} {N : nT}
/-- the ring's next place holds a message that nobody has yet -/
theorem cs_place (H : zCV Z S0 ad n w S G) {r : Nat} (hr : zri n r) (hz : ∀ j, j < n → (G.1 j).1 2 0 = r → ∀ p, p < 101 → (G.2 r).1 3 0 < p → (G.1 j).1 16 p = 0) (i key : Nat) (v : Int64) (safe : Nat) : zCV Z S0 ad n w (zsI S (ad 12 r) 5 (nI ((G.2 r).1 3 0 + 1))) (gR G r (rPut (G.2 r) i key v safe)) := by
  obtain ⟨⟨k1, k2, k3, k4⟩, k5, k6⟩ := H.2.2.2.1 r hr
  have e : ∀ t, t ≠ 12 → zI (zsI S (ad 12 r) 5 (nI ((G.2 r).1 3 0 + 1))) (ad t r) = zI S (ad t r) := fun t ht => zu_ne _ _ _ _ _ (zCV_ne H (fun q => ht q.1))
  refine zCV_ring H (fun a ha => zAt_sI S _ _ (ha 12 (by omega))) ⟨⟨?_, ?_, ?_, ?_⟩, fun q hq => ?_, fun q hq => ?_⟩ (fun j hj hjr p hp hn => ?_)
  · rw [rPut_ne _ _ _ _ _ _ (by omega) (by omega) (by omega) (by omega), zI_sI, if_neg (fun q => by omega)]; exact k1
  · rw [rPut_ne _ _ _ _ _ _ (by omega) (by omega) (by omega) (by omega), zI_sI, if_neg (fun q => by omega)]; exact k2
  · rw [rPut_ne _ _ _ _ _ _ (by omega) (by omega) (by omega) (by omega), zI_sI, if_neg (fun q => by omega)]; exact k3
  · rw [rPut_3, zI_sI, if_pos ⟨rfl, rfl⟩]
  · rw [e 13 (by omega), rPut_ne _ _ _ _ _ _ (by omega) (by omega) (by omega) (by omega)]; exact k5 q hq
  · rw [e 14 (by omega), rPut_ne _ _ _ _ _ _ (by omega) (by omega) (by omega) (by omega)]; exact k6 q hq
  · have hne : p ≠ (G.2 r).1 3 0 + 1 := fun e => hn (hz j hj hjr p hp (by omega))
    obtain ⟨a, b, c, d⟩ := rPut_p (G.2 r) i key v safe p
    rw [if_neg hne] at a b c d
    exact ⟨a, b, c, d⟩
end
/-- node i's first waiting message gets the next place and is given -/
def gPut1 (n i r : Nat) (P : Nat → Bool) (G : gT) : gT :=
  gGive (gR (gN G i (nShift (G.1 i))) r (rPut (G.2 r) i ((G.1 i).1 12 0) ((G.1 i).2 12 0) ((G.1 i).1 13 0))) (fun j => P j || decide (j = i)) r ((G.2 r).1 3 0 + 1) n
def gSend (n i r : Nat) (P : Nat → Bool) : Nat → gT → gT
  | 0, G => G
  | k + 1, G => if (G.2 r).1 3 0 < 100 ∧ (G.1 i).1 11 0 ≠ 0 then gSend n i r P k (gPut1 n i r P G) else G
theorem nShift_ne (N : nT) {f : Nat} (j : Nat) (h1 : f ≠ 11) (h2 : f ≠ 12) (h3 : f ≠ 13) : (nShift N).1 f j = N.1 f j := by
  show (if f = 11 ∧ j = 0 then N.1 11 0 - 1 else if f = 12 ∨ f = 13 then N.1 f (j + 1) else N.1 f j) = _
  rw [if_neg (fun r => h1 r.1), if_neg (by omega)]
theorem gPut1_n (n i r : Nat) (P : Nat → Bool) (G : gT) (j : Nat) {f : Nat} (x : Nat) (h1 : f ≠ 16) (h2 : f ≠ 14) (h3 : f ≠ 15) (h4 : f ≠ 11) (h5 : f ≠ 12) (h6 : f ≠ 13) : ((gPut1 n i r P G).1 j).1 f x = (G.1 j).1 f x := by
  unfold gPut1
  rw [gGive_ne _ _ _ _ _ _ _ h1 h2 h3, g1_R, g1_N]
  split
  · rename_i e
    rw [e, nShift_ne _ _ h4 h5 h6]
  · rfl
theorem gPut1_r (n i r : Nat) (P : Nat → Bool) (G : gT) : (gPut1 n i r P G).2 r = rPut (G.2 r) i ((G.1 i).1 12 0) ((G.1 i).2 12 0) ((G.1 i).1 13 0) := by
  show (gR (gN G i (nShift (G.1 i))) r _).2 r = _
  rw [g2_Rs]
theorem gPut1_16 (n i r : Nat) (P : Nat → Bool) (G : gT) (j p : Nat) (hp : p ≠ (G.2 r).1 3 0 + 1) : ((gPut1 n i r P G).1 j).1 16 p = (G.1 j).1 16 p := by
  unfold gPut1
  show (if j < n ∧ (P j || decide (j = i)) = true then nRecv ((gR (gN G i (nShift (G.1 i))) r (rPut (G.2 r) i ((G.1 i).1 12 0) ((G.1 i).2 12 0) ((G.1 i).1 13 0))).1 j) _ _ else (gR (gN G i (nShift (G.1 i))) r (rPut (G.2 r) i ((G.1 i).1 12 0) ((G.1 i).2 12 0) ((G.1 i).1 13 0))).1 j).1 16 p = _
  have hs : ((gR (gN G i (nShift (G.1 i))) r (rPut (G.2 r) i ((G.1 i).1 12 0) ((G.1 i).2 12 0) ((G.1 i).1 13 0))).1 j).1 16 p = (G.1 j).1 16 p := by
    rw [g1_R, g1_N]
    split
    · rename_i e
      rw [e, nShift_ne _ _ (by omega) (by omega) (by omega)]
    · rfl
  split
  · unfold nRecv
    split
    · rw [n1_sJ, n1_ne _ _ _ _ (by omega), n1_ne _ _ _ _ (by omega), n1_sI, if_neg (fun z => hp z.2)]
      exact hs
    · rw [n1_sI, if_neg (fun z => hp z.2)]
      exact hs
  · exact hs
section
variable {Z : zZ} {S0 S : zS} {ad : Nat → Nat → Nat} {n w : Nat} {G : gT} {i : Nat} {N : nT}
/-- what the loop of sending keeps -/
def sOk (n i r : Nat) (P : Nat → Bool) (G : gT) : Prop := (∀ j, j < n → (P j || decide (j = i)) = true → (G.1 j).1 2 0 = r) ∧ (∀ j, j < n → (G.1 j).1 4 0 < 2 ^ 30) ∧ rOk (G.2 r) ∧ (G.2 r).1 3 0 ≤ 100 ∧ (G.1 i).1 11 0 ≤ 12 ∧ (∀ q, q < (G.1 i).1 11 0 → (G.1 i).1 12 q < 16 ∧ (G.1 i).1 13 q < 2) ∧ ∀ j, j < n → (G.1 j).1 2 0 = r → ∀ p, p < 101 → (G.2 r).1 3 0 < p → (G.1 j).1 16 p = 0
theorem sOk_s {r : Nat} {P : Nat → Bool} (hi : i < n) (hi8 : i < 8) (h : sOk n i r P G) (h1 : (G.2 r).1 3 0 < 100) (h2 : (G.1 i).1 11 0 ≠ 0) : sOk n i r P (gPut1 n i r P G) := by
  obtain ⟨a1, a2, a3, a4, a5, a6, a7⟩ := h
  have e11 : ((gPut1 n i r P G).1 i).1 11 0 = (G.1 i).1 11 0 - 1 := by
    unfold gPut1
    rw [gGive_ne _ _ _ _ _ _ _ (by omega) (by omega) (by omega), g1_R, g1_Ns]
    rfl
  refine ⟨fun j hj hp => ?_, fun j hj => ?_, ⟨?_, fun p hp => ?_⟩, ?_, by omega, fun q hq => ?_, fun j hj hjr p hp hl => ?_⟩
  · rw [gPut1_n _ _ _ _ _ _ _ (by omega) (by omega) (by omega) (by omega) (by omega) (by omega)]; exact a1 j hj hp
  · rw [gPut1_n _ _ _ _ _ _ _ (by omega) (by omega) (by omega) (by omega) (by omega) (by omega)]; exact a2 j hj
  · rw [gPut1_r, rPut_ne _ _ _ _ _ _ (by omega) (by omega) (by omega) (by omega)]; exact a3.1
  · rw [gPut1_r]
    obtain ⟨b1, b2, b3, b4⟩ := rPut_p (G.2 r) i ((G.1 i).1 12 0) ((G.1 i).2 12 0) ((G.1 i).1 13 0) p
    rw [b1, b2, b4]
    have c := a3.2 p hp
    have d := a6 0 (by omega)
    split
    · exact ⟨hi8, d.1, d.2⟩
    · exact c
  · rw [gPut1_r, rPut_3]; omega
  · rw [e11] at hq
    have c := a6 (q + 1) (by omega)
    unfold gPut1
    rw [gGive_ne _ _ _ _ _ _ _ (by omega) (by omega) (by omega), gGive_ne _ _ _ _ _ _ _ (by omega) (by omega) (by omega), g1_R, g1_Ns]
    exact c
  · rw [gPut1_n _ _ _ _ _ _ _ (by omega) (by omega) (by omega) (by omega) (by omega) (by omega)] at hjr
    rw [gPut1_r, rPut_3] at hl
    rw [gPut1_16 _ _ _ _ _ _ _ (by omega)]
    exact a7 j hj hjr p hp (by omega)
theorem c_send (H : zCV Z S0 ad n w S G) (hi : i < n) (hw : w ≤ 8) {x : Int32} {P : Nat → Bool} (hP : ∀ j, j < n → bt x j = P j) {r : Nat} (hri : zri n r) (hok : sOk n i r P G) {Qp : zS → Prop} (k : ∀ S', zCV Z S0 ad n w S' (gSend n i r P w G) → Qp S') : w_X6_sendPending Z (ad 0 0) (ad 3 i) x S Qp := by
  obtain ⟨r1, r2, r3, r4⟩ := cv_row H
  have hn := (zCV_n H).2
  obtain ⟨⟨d1, d2, d3, d4, d5⟩, ⟨w1, -⟩, -, -, -⟩ := zCV_nd H hi
  have hrk := (zCV_rg H hri).1
  have hir : (G.1 i).1 2 0 = r := hok.1 i hi (by simp)
  have hrg : zR S (ad 3 i) 7 = some (ad 12 r) := hir ▸ (cv_g H hi).2.1
  unfold w_X6_sendPending
  refine ⟨d1, ad 12 r, hrg, ?_⟩
  refine zlp2 (fun y S' => ∃ k' G', k' ≤ w ∧ y = nI (w - k') ∧ zCV Z S0 ad n w S' G' ∧ gSend n i r P k' G' = gSend n i r P w G ∧ sOk n i r P G') (fun y _ => 10 - y.toNatClampNeg) (fun rec y S' hI hrec => ?_) _ S ⟨w, G, by omega, by rw [Nat.sub_self]; rfl, H, rfl, hok⟩
  obtain ⟨k', G', hk, rfl, H', hd, hok'⟩ := hI
  have g0 : zI S' (ad 0 0) 0 = nI w := H'.2.1
  have g3 : zI S' (ad 12 r) 5 = nI ((G'.2 r).1 3 0) := (cv_R H' hri).1.2.2.2
  have hlast := hok'.2.2.2.1
  have hpc := hok'.2.2.2.2.1
  unfold wb_X6_sendPending_8
  have hle : (nI w ≤ nI (w - k')) ↔ w ≤ w - k' := nI_leI (by omega) (by omega)
  have hl2 : ((100 : Int32) ≤ nI ((G'.2 r).1 3 0)) ↔ 100 ≤ (G'.2 r).1 3 0 := nI_leI (a := 100) (by omega) (by omega)
  rw [g0, g3, hle, hl2]
  have hstop : ¬ (k' ≠ 0 ∧ (G'.2 r).1 3 0 < 100 ∧ (G'.1 i).1 11 0 ≠ 0) → ∀ S'', zCV Z S0 ad n w S'' G' → Qp S'' := fun hn S'' H'' => by
    refine k S'' ?_
    rw [← hd]
    cases k' with
    | zero => exact H''
    | succ j =>
      unfold gSend
      rw [if_neg (fun z => hn ⟨by omega, z.1, z.2⟩)]
      exact H''
  refine ⟨r1, fun q => hstop (fun z => by omega) S' H', fun q => ⟨hrk, fun q2 => hstop (fun z => by omega) S' H', fun q2 => ⟨d1, ad 4 i, d2, w1, ?_⟩⟩⟩
  refine c_take (N := G'.1 i) (by rw [gN_self]; exact H') hi hpc (fun q3 => ⟨fun b e => absurd e (by simp), fun _ => hstop (fun z => z.2.2 q3) S' H'⟩) (fun q3 S10 b m H10 => ⟨fun b12 e S14 e14 => ?_, fun e => absurd e (by simp)⟩)
  have : b12 = b := (Option.some.inj e).symm
  subst this
  obtain ⟨j, rfl⟩ : ∃ j, k' = j + 1 := ⟨k' - 1, by omega⟩
  have g3' : zI S10 (ad 12 r) 5 = nI ((G'.2 r).1 3 0) := (cv_R H10 hri).1.2.2.2
  rw [g3', nI_1] at e14
  have hz : ∀ j, j < n → ((gN G' i (nShift (G'.1 i))).1 j).1 2 0 = r → ∀ p, p < 101 → (G'.2 r).1 3 0 < p → ((gN G' i (nShift (G'.1 i))).1 j).1 16 p = 0 := fun j hj hjr p hp hl => by
    rw [g1_N] at hjr ⊢
    split at hjr
    · rename_i e
      rw [if_pos e, nShift_ne _ _ (by omega) (by omega) (by omega)]
      rw [nShift_ne _ _ (by omega) (by omega) (by omega)] at hjr
      exact hok'.2.2.2.2.2.2 i hi hjr p hp hl
    · rename_i e
      rw [if_neg e]
      exact hok'.2.2.2.2.2.2 j hj hjr p hp hl
  have H14 := cs_place H10 hri hz i ((G'.1 i).1 12 0) ((G'.1 i).2 12 0) ((G'.1 i).1 13 0)
  rw [g2_N, ← e14] at H14
  have m14 := zMg_mv H10 H14 m
  have gi : zI S14 (ad 3 i) 0 = nI i := (cv_g H14 hi).1.1
  have gl : zI S14 (ad 12 r) 5 = nI ((G'.2 r).1 3 0 + 1) := by rw [e14, zI_sI, if_pos ⟨rfl, rfl⟩]
  rw [gi, gl]
  have hs := sOk_s hi (by omega) hok' (by omega) q3
  obtain ⟨b1, b2, b3, b4⟩ := rPut_p (G'.2 r) i ((G'.1 i).1 12 0) ((G'.1 i).2 12 0) ((G'.1 i).1 13 0) ((G'.2 r).1 3 0 + 1)
  rw [if_pos rfl] at b1 b2 b3 b4
  have eR := gPut1_r n i r P G'
  refine c_give (P := fun j => P j || decide (j = i)) H14 (fun j' hj => ?_) (r := r) (fun j' hj hp => ?_) (by rw [g2_Rs, ← eR]; exact hs.2.2.1) (fun j' hj => ?_) (by omega) (by rw [g2_Rs, b1, b2, b3, b4]; exact m14) (fun S15 H15 y e => ?_)
  · rw [b_or, hP j' hj, bt_one i (by omega) (by omega)]
  · rw [g1_R, g1_N]
    have := hok'.1 j' hj hp
    split
    · rename_i e
      rw [nShift_ne _ _ (by omega) (by omega) (by omega), ← e]; exact this
    · exact this
  · rw [g1_R, g1_N]
    have := hok'.2.1 j' hj
    split
    · rename_i e
      rw [nShift_ne _ _ (by omega) (by omega) (by omega), ← e]; exact this
    · exact this
  · rw [nI_1] at e
    subst e
    refine hrec _ _ ⟨j, gPut1 n i r P G', by omega, by congr 1; omega, H15, ?_, hs⟩ ?_
    · rw [← hd]
      show _ = (if (G'.2 r).1 3 0 < 100 ∧ (G'.1 i).1 11 0 ≠ 0 then gSend n i r P j (gPut1 n i r P G') else G')
      rw [if_pos ⟨by omega, q3⟩]
    · rw [nI_clamp (by omega), nI_clamp (by omega)]; omega
end
