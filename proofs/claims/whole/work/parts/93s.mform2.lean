/-! the reference's new ring: a joiner's steps on the cells -/
def nEnt (N : nT) (a b : Nat) : nT := (fun f j => if f = 16 then 0 else if f = 2 ∧ j = 0 then 10 else if f = 6 ∧ j = 0 then a else if f = 7 ∧ j = 0 then b else N.1 f j, N.2)
theorem nEnt_ne (N : nT) (a b : Nat) {f : Nat} (j : Nat) (h1 : f ≠ 16) (h2 : f ≠ 2) (h3 : f ≠ 6) (h4 : f ≠ 7) : (nEnt N a b).1 f j = N.1 f j := by
  show (if f = 16 then 0 else if f = 2 ∧ j = 0 then 10 else if f = 6 ∧ j = 0 then a else if f = 7 ∧ j = 0 then b else N.1 f j) = _
  rw [if_neg h1, if_neg (fun z => h2 z.1), if_neg (fun z => h3 z.1), if_neg (fun z => h4 z.1)]
theorem nEnt_eq (N : nT) (a b num : Nat) : nsI (nsI (nsI (nEnt N a b) 3 0 num) 6 0 0) 7 0 0 = nsI (nsI (nLeave N) 2 0 10) 3 0 num := by
  refine Prod.ext (funext fun f => funext fun j => ?_) rfl
  show (if f = 7 ∧ j = 0 then 0 else if f = 6 ∧ j = 0 then 0 else if f = 3 ∧ j = 0 then num else if f = 16 then 0 else if f = 2 ∧ j = 0 then 10 else if f = 6 ∧ j = 0 then a else if f = 7 ∧ j = 0 then b else N.1 f j) = if f = 3 ∧ j = 0 then num else if f = 2 ∧ j = 0 then 10 else if f = 16 then 0 else if f = 2 ∧ j = 0 then 8 else if (f = 6 ∨ f = 7) ∧ j = 0 then 0 else N.1 f j
  by_cases h7 : f = 7 ∧ j = 0
  · rw [if_pos h7, if_neg (by omega), if_neg (by omega), if_neg (by omega), if_neg (by omega), if_pos (by omega)]
  · rw [if_neg h7]
    by_cases h6 : f = 6 ∧ j = 0
    · rw [if_pos h6, if_neg (by omega), if_neg (by omega), if_neg (by omega), if_neg (by omega), if_pos (by omega)]
    · rw [if_neg h6]
      by_cases h3 : f = 3 ∧ j = 0
      · rw [if_pos h3, if_pos h3]
      · rw [if_neg h3, if_neg h3]
        by_cases h2 : f = 2 ∧ j = 0
        · rw [if_neg (by omega), if_pos h2, if_pos h2]
        · rw [if_neg h2, if_neg h2, if_neg h2, if_neg h6, if_neg h7, if_neg (c := (f = 6 ∨ f = 7) ∧ j = 0) (by omega)]
theorem nTell_r (N : nT) (a b c d e g : Int64) (v : Nat) : nTell (nsI N 2 0 v) a b c d e g = nsI (nTell N a b c d e g) 2 0 v := by
  have e10 : (nsI N 2 0 v).1 10 0 = N.1 10 0 := n1_ne _ _ _ _ (by omega)
  unfold nTell
  rw [e10]
  refine Prod.ext (funext fun f => funext fun j => ?_) rfl
  show (if f = 10 ∧ j = 0 then N.1 10 0 + 1 else if f = 2 ∧ j = 0 then v else N.1 f j) = if f = 2 ∧ j = 0 then v else if f = 10 ∧ j = 0 then N.1 10 0 + 1 else N.1 f j
  by_cases h : f = 10 ∧ j = 0
  · rw [if_pos h, if_neg (by omega), if_pos h]
  · rw [if_neg h, if_neg h]
theorem nForget_r (N : nT) (q v : Nat) : nForget (nsI N 2 0 v) q = nsI (nForget N q) 2 0 v := by
  refine Prod.ext (funext fun f => funext fun j => ?_) rfl
  show (if f = 14 ∧ j < q then 0 else if f = 9 ∧ j = 0 then 0 else if f = 2 ∧ j = 0 then v else N.1 f j) = if f = 2 ∧ j = 0 then v else if f = 14 ∧ j < q then 0 else if f = 9 ∧ j = 0 then 0 else N.1 f j
  by_cases h : f = 2 ∧ j = 0
  · rw [if_neg (by omega), if_neg (by omega), if_pos h, if_pos h]
  · rw [if_neg h, if_neg h]
theorem nsI_c (N : nT) {f g : Nat} (a v : Nat) (h : f ≠ g) : nsI (nsI N g 0 v) f 0 a = nsI (nsI N f 0 a) g 0 v := by
  refine Prod.ext (funext fun x => funext fun j => ?_) rfl
  show (if x = f ∧ j = 0 then a else if x = g ∧ j = 0 then v else N.1 x j) = if x = g ∧ j = 0 then v else if x = f ∧ j = 0 then a else N.1 x j
  by_cases h1 : x = f ∧ j = 0
  · rw [if_pos h1, if_neg (by omega), if_pos h1]
  · rw [if_neg h1, if_neg h1]
theorem nsI_2 (N : nT) (a v : Nat) : nsI (nsI N 2 0 a) 2 0 v = nsI N 2 0 v := by
  refine Prod.ext (funext fun x => funext fun j => ?_) rfl
  show (if x = 2 ∧ j = 0 then v else if x = 2 ∧ j = 0 then a else N.1 x j) = if x = 2 ∧ j = 0 then v else N.1 x j
  by_cases h1 : x = 2 ∧ j = 0
  · rw [if_pos h1, if_pos h1]
  · rw [if_neg h1, if_neg h1, if_neg h1]
theorem nJoin_ren (M R : nT) (r : Nat) (p : Bool) : nJoin M R r p = nsI (nJoin M R 10 p) 2 0 r := by
  cases p
  · show nTell (nsI (nsI M 2 0 r) 3 0 (R.1 0 0)) _ _ _ _ _ _ = nsI (nTell (nsI (nsI M 2 0 10) 3 0 (R.1 0 0)) _ _ _ _ _ _) 2 0 r
    rw [← nTell_r, nsI_c (nsI M 2 0 10) (f := 2) (g := 3) r (R.1 0 0) (by omega), nsI_2]
  · show nTell (nForget (nsI (nsI (nsI (nsI M 2 0 r) 3 0 (R.1 0 0)) 4 0 (R.1 0 0)) 5 0 (R.1 1 0)) 101) _ _ _ _ _ _ = nsI (nTell (nForget (nsI (nsI (nsI (nsI M 2 0 10) 3 0 (R.1 0 0)) 4 0 (R.1 0 0)) 5 0 (R.1 1 0)) 101) _ _ _ _ _ _) 2 0 r
    rw [← nTell_r, ← nForget_r, nsI_c (nsI (nsI (nsI M 2 0 10) 3 0 (R.1 0 0)) 4 0 (R.1 0 0)) (f := 2) (g := 5) r (R.1 1 0) (by omega), nsI_c (nsI (nsI M 2 0 10) 3 0 (R.1 0 0)) (f := 2) (g := 4) r (R.1 0 0) (by omega), nsI_c (nsI M 2 0 10) (f := 2) (g := 3) r (R.1 0 0) (by omega), nsI_2]
section
variable {Z : zZ} {S0 S : zS} {ar : Nat → Nat} {n w : Nat} {sg sg' : Nat → Nat} {u u' : Nat → Nat → Bool} {G : gT} {i : Nat} {N : nT} {r t l : Nat} {A A' : Nat → Nat → Int32} {B : Nat → Nat → Int64} {q num s : Nat} {R' : nT}
/-- a free slot gets a ring that nobody is of yet -/
theorem mC_free (H : mC n w sg u A B G) (hu10 : ∀ j, j < n → (G.1 j).1 2 0 ≠ 10) (hf : freeS n sg G q) (hsg : ∀ k, k ≠ 10 → sg' k = sg k) (e : ∀ k, k < 24 ∨ 28 < k → A' k = A k) (e2 : ∀ k, 24 ≤ k → k ≤ 28 → ∀ c, c ≠ q → A' k c = A k c) : mC n w sg' u A' B (gR G 10 R') := by
  obtain ⟨⟨c1, c1'⟩, c2, c3⟩ := H
  refine ⟨⟨by rw [e 0 (by omega)]; exact c1, by rw [e 0 (by omega), hsg 9 (by omega)]; exact c1'⟩, fun j hj => ?_, fun a b ha hb => ?_⟩
  · obtain ⟨⟨a1, a2, a3, a4⟩, b1, b2, b3⟩ := c2 j hj
    have hj10 := hu10 j hj
    unfold mNn
    rw [g1_R, g2_Rn _ _ hj10]
    refine ⟨⟨fun f hf hf2 hf6 hf7 => ?_, a2, fun k hk h12 => ?_, fun p hp => ?_⟩, ?_, ?_, fun h8 => ?_⟩
    · have := mA_rg f hf hf2
      rw [e _ (by omega)]; exact a1 f hf hf2 hf6 hf7
    · rw [e 13 (by omega), e 15 (by omega)]; exact a3 k hk h12
    · rw [e 19 (by omega), e 20 (by omega)]; exact a4 p hp
    · unfold mNr
      rw [e 5 (by omega), hsg _ hj10]; exact b1
    · unfold mNh
      rw [e 33 (by omega), hsg _ hj10]; exact b2
    · have z := b3 h8
      have hq := hf j hj h8
      unfold mRg at z ⊢
      rw [g2_Rn _ _ hj10, hsg _ hj10, e2 24 (by omega) (by omega) _ hq, e2 25 (by omega) (by omega) _ hq, e2 28 (by omega) (by omega) _ hq, e2 26 (by omega) (by omega) _ hq, e2 27 (by omega) (by omega) _ hq, e 29 (by omega), e 30 (by omega), e 32 (by omega), e 34 (by omega), e 35 (by omega)]
      exact z
  · rw [g1_R, hsg _ (hu10 a ha), hsg _ (hu10 b hb)]
    exact c3 a b ha hb
/-- the token's full of one place of the new slot -/
theorem mC_J0 (H : mC n w sg u A B G) (hR : G.2 10 = R') (hsg : sg 10 = q) (hfree : ∀ j, j < n → (G.1 j).1 2 0 ≠ 8 → (G.1 j).1 2 0 ≠ 10 → sg ((G.1 j).1 2 0) ≠ q) {m : Nat} (hm : m < 8) (e : ∀ k, k ≠ 35 → A' k = A k) (e35 : ∀ c, A' 35 c = if c = 8 * q + m then nI 0 else A 35 c) : mC n w sg u A' B (gR G 10 (nsI R' 5 m 0)) := by
  obtain ⟨c1, c2, c3⟩ := H
  have hn := c1.1.2.2.2.1
  have en : ∀ f x, f ≠ 5 → ∀ r', ((gR G 10 (nsI R' 5 m 0)).2 r').1 f x = (G.2 r').1 f x := fun f x hf r' => by
    rw [g2_R]
    split
    · rename_i z; rw [n1_ne _ _ _ _ hf, z, hR]
    · rfl
  have ej : ∀ r', ((gR G 10 (nsI R' 5 m 0)).2 r').2 = (G.2 r').2 := fun r' => by
    rw [g2_R]
    split
    · rename_i z; rw [z, hR]; rfl
    · rfl
  refine ⟨by rw [e 0 (by omega)]; exact c1, fun j hj => ?_, c3⟩
  obtain ⟨⟨a1, a2, a3, a4⟩, b1, b2, b3⟩ := c2 j hj
  refine ⟨⟨fun f hf hf2 hf6 hf7 => ?_, a2, fun k hk h12 => ?_, fun p hp => ?_⟩, ?_, ?_, fun h8 => ?_⟩
  · have := mA_rg f hf hf2
    rw [e _ (by omega)]; exact a1 f hf hf2 hf6 hf7
  · rw [e 13 (by omega), e 15 (by omega)]; exact a3 k hk h12
  · rw [e 19 (by omega), e 20 (by omega)]; exact a4 p hp
  · unfold mNr
    rw [e 5 (by omega)]; exact b1
  · unfold mNh
    rw [e 33 (by omega), en 3 0 (by omega)]; exact b2
  · have h8' : (G.1 j).1 2 0 ≠ 8 := h8
    obtain ⟨d1, d2, d3, d4, d5, d6, d7⟩ := b3 h8'
    show mRg A' B n sg u (gR G 10 (nsI R' 5 m 0)) ((G.1 j).1 2 0)
    unfold mRg
    rw [e 24 (by omega), e 25 (by omega), e 28 (by omega), e 26 (by omega), e 27 (by omega), e 29 (by omega), e 30 (by omega), e 32 (by omega), e 34 (by omega), en 0 0 (by omega), en 1 0 (by omega), en 3 0 (by omega), en 2 0 (by omega), ej]
    refine ⟨d1, d2, d3, d4, d5, fun p p1 p2 => by rw [en 6 p (by omega), en 7 p (by omega), en 8 p (by omega), en 4 p (by omega)]; exact d6 p p1 p2, fun y hy hu => ?_⟩
    have z := d7 y hy hu
    rw [e35]
    by_cases e10 : (G.1 j).1 2 0 = 10
    · rw [e10, hsg, g2_Rs]
      rw [e10, hsg, hR] at z
      rw [n1_sI]
      by_cases ey : y = m
      · rw [if_pos (by omega), if_pos ⟨rfl, ey⟩]
      · rw [if_neg (by omega), if_neg (fun y => ey y.2)]; exact z
    · have := hfree j hj h8' e10
      rw [if_neg (by omega), g2_Rn _ _ e10]; exact z
/-- a node's ring becomes the new one -/
theorem mC_J1 (H : mC n w sg u A B G) (hR : G.2 10 = R') (hsg : sg 10 = q) (hq : q < 16) (hfree : ∀ j, j < n → (G.1 j).1 2 0 ≠ 8 → (G.1 j).1 2 0 ≠ 10 → sg ((G.1 j).1 2 0) ≠ q) {m : Nat} (hm : m < n) (hm10 : (G.1 m).1 2 0 ≠ 10) (hQ : mQ A n q num s R') (hI : rIs R' num s) (hls : ls s < n) (hlb : s.testBit (ls s) = true) (hl10 : ls s = m ∨ (G.1 (ls s)).1 2 0 = 10) (e : ∀ k, k ≠ 5 → A' k = A k) (e5 : ∀ c, A' 5 c = if c = m then nI q else A 5 c) (hu5 : ∀ j, u 5 j = false) : mC n w sg (uOff u m) A' B (gN (gR G ((G.1 m).1 2 0) (rLeave (G.2 ((G.1 m).1 2 0)) m)) m (nEnt (G.1 m) ((A 16 m).toBitVec.toNat) ((A 17 m).toBitVec.toNat))) := by
  obtain ⟨c1, c2, c3⟩ := H
  generalize hG' : gN (gR G ((G.1 m).1 2 0) (rLeave (G.2 ((G.1 m).1 2 0)) m)) m (nEnt (G.1 m) ((A 16 m).toBitVec.toNat) ((A 17 m).toBitVec.toNat)) = G'
  have eM : G'.1 m = nEnt (G.1 m) ((A 16 m).toBitVec.toNat) ((A 17 m).toBitVec.toNat) := by rw [← hG', g1_Ns]
  have eM2 : (G'.1 m).1 2 0 = 10 := by rw [eM]; rfl
  have eJ : ∀ j, j ≠ m → G'.1 j = G.1 j := fun j hj => by rw [← hG', g1_Nn _ _ hj]; rfl
  have eR : ∀ r f x, f ≠ 2 → (G'.2 r).1 f x = (G.2 r).1 f x := fun r f x hf => by
    rw [← hG', g2_N, g2_R]
    split
    · rename_i z
      unfold rLeave
      split
      · rw [n1_ne _ _ _ _ hf, z]
      · rw [z]
    · rfl
  have eRj : ∀ r, (G'.2 r).2 = (G.2 r).2 := fun r => by
    rw [← hG', g2_N, g2_R]
    split
    · rename_i z
      unfold rLeave
      split
      · rw [z]; rfl
      · rw [z]
    · rfl
  have eR2 : ∀ r, (G'.2 r).1 2 0 = if r = (G.1 m).1 2 0 ∧ (G.2 r).1 2 0 = m + 1 then 0 else (G.2 r).1 2 0 := fun r => by
    rw [← hG', g2_N, g2_R]
    split
    · rename_i z
      unfold rLeave
      rw [z]
      split
      · rename_i y
        rw [if_pos ⟨rfl, y⟩, n1_eq]
      · rename_i y
        rw [if_neg (fun x => y x.2)]
    · rename_i z
      rw [if_neg (fun y => z y.1)]
  have eR10 : G'.2 10 = R' := by
    rw [← hG', g2_N, g2_Rn _ _ (Ne.symm hm10), hR]
  have hl10' : (G'.1 (ls s)).1 2 0 = 10 := by
    by_cases z : ls s = m
    · rw [z]; exact eM2
    · rw [eJ _ z]
      rcases hl10 with y | y
      · exact absurd y z
      · exact y
  have hQ' : mQ A' n q num s R' := by
    unfold mQ
    rw [e 24 (by omega), e 25 (by omega), e 26 (by omega), e 27 (by omega), e 28 (by omega), e 35 (by omega)]
    exact hQ
  have h10R : mRg A' B n sg (uOff u m) G' 10 := mRg_10 hq hsg hQ' eR10 hI hls hlb hl10'
  have hu5' : ∀ j, uOff u m 5 j = false := fun j => by rw [uOff_5]; exact hu5 j
  have huo : ∀ j, j ≠ m → uOff u m 6 j = u 6 j := fun j hj => if_neg (fun z => hj z.2)
  refine ⟨by rw [e 0 (by omega)]; exact c1, fun j hj => ?_, fun a b ha hb ha8 hb8 es => ?_⟩
  · by_cases z : j = m
    · subst z
      obtain ⟨⟨a1, a2, a3, a4⟩, -, -, -⟩ := c2 j hj
      refine ⟨⟨fun f hf hf2 hf6 hf7 => ?_, ?_, fun y hy h12 => ?_, fun p hp => ?_⟩, ?_, fun _ p p1 p2 => ?_, fun _ => ?_⟩
      · have := mA_rg f hf hf2
        rw [e _ (by omega), eM]
        by_cases e6 : f = 6
        · subst e6
          exact (nI_sur _).symm
        · by_cases e7 : f = 7
          · subst e7
            exact (nI_sur _).symm
          · rw [nEnt_ne _ _ _ _ (by omega) hf2 e6 e7]
            exact a1 f hf hf2 (fun x => absurd x e6) (fun x => by omega)
      · rw [eM]; exact a2
      · rw [eM, nEnt_ne _ _ _ _ (by omega) (by omega) (by omega) (by omega)] at hy
        rw [e 13 (by omega), e 15 (by omega), eM, nEnt_ne _ _ _ _ (by omega) (by omega) (by omega) (by omega), nEnt_ne _ _ _ _ (by omega) (by omega) (by omega) (by omega)]
        exact a3 y hy h12
      · rw [e 19 (by omega), e 20 (by omega), eM, nEnt_ne _ _ _ _ (by omega) (by omega) (by omega) (by omega), nEnt_ne _ _ _ _ (by omega) (by omega) (by omega) (by omega)]
        exact a4 p hp
      · unfold mNr
        rw [e5, if_pos rfl, eM2, if_neg (by omega), hsg]
      · rw [eM2, eR10, hI.2.2.2] at p2
        exact absurd p2 (by omega)
      · rw [eM2]; exact h10R
    · obtain ⟨⟨a1, a2, a3, a4⟩, b1, b2, b3⟩ := c2 j hj
      unfold mNn
      rw [eJ j z]
      refine ⟨⟨fun f hf hf2 hf6 hf7 => ?_, a2, fun y hy h12 => ?_, fun p hp => ?_⟩, ?_, ?_, fun h8 => ?_⟩
      · have := mA_rg f hf hf2
        rw [e _ (by omega)]; exact a1 f hf hf2 (fun x => by rw [← huo j z]; exact hf6 x) hf7
      · rw [e 13 (by omega), e 15 (by omega)]; exact a3 y hy h12
      · rw [e 19 (by omega), e 20 (by omega)]; exact a4 p hp
      · unfold mNr
        rw [e5, if_neg z]; exact b1
      · unfold mNh
        rw [e 33 (by omega), eR _ 3 0 (by omega)]; exact b2
      · by_cases h10 : (G.1 j).1 2 0 = 10
        · rw [h10]; exact h10R
        · obtain ⟨d1, d2, d3, d4, ⟨lo, tk, f1, f2, f3, f4, f5, f6⟩, d6, d7⟩ := b3 h8
          unfold mRg
          rw [e 24 (by omega), e 25 (by omega), e 28 (by omega), e 26 (by omega), e 27 (by omega), e 29 (by omega), e 30 (by omega), e 32 (by omega), e 34 (by omega), e 35 (by omega), eR _ 0 0 (by omega), eR _ 1 0 (by omega), eR _ 3 0 (by omega), eRj]
          refine ⟨d1, d2, d3, d4, ⟨lo, tk, f1, f2, f3, f4, f5, ?_⟩, fun p p1 p2 => by rw [eR _ 6 p (by omega), eR _ 7 p (by omega), eR _ 8 p (by omega), eR _ 4 p (by omega)]; exact d6 p p1 p2, fun y hy _ => by rw [eR _ 5 y (by omega)]; exact d7 y hy (fun x => by rw [hu5 y] at x; exact absurd x.1 (by decide))⟩
          rw [eR2]
          by_cases et : tk = m
          · subst et
            have hnew : ¬ (lo = 0 ∧ (G'.1 tk).1 2 0 = (G.1 j).1 2 0) := fun x => h10 (x.2.symm.trans eM2)
            rw [if_neg hnew]
            by_cases hh : lo = 0 ∧ (G.1 tk).1 2 0 = (G.1 j).1 2 0
            · rw [if_pos hh] at f6
              rw [if_pos ⟨hh.2.symm, f6⟩]
            · rw [if_neg hh] at f6
              rw [f6]
              split <;> rfl
          · rw [eJ tk et, f6]
            by_cases hh : lo = 0 ∧ (G.1 tk).1 2 0 = (G.1 j).1 2 0
            · rw [if_pos hh, if_neg (fun x => by omega)]
            · rw [if_neg hh, if_neg (fun x => by omega)]
  · by_cases za : a = m
    · by_cases zb : b = m
      · rw [za, zb]
      · rw [za, eM2]
        rw [za, eM2, hsg] at es
        rw [eJ b zb] at es hb8 ⊢
        exact Classical.byContradiction (fun y => hfree b hb hb8 (Ne.symm y) es.symm)
    · by_cases zb : b = m
      · rw [zb, eM2]
        rw [zb, eM2, hsg] at es
        rw [eJ a za] at es ha8 ⊢
        exact Classical.byContradiction (fun y => hfree a ha ha8 y es)
      · rw [eJ a za] at es ha8 ⊢
        rw [eJ b zb] at es hb8 ⊢
        exact c3 a b ha hb ha8 hb8 es
def gFm (G : gT) (s : Nat) (R0 R' : nT) (p : Bool) (m : Nat) : gT := (fun j => if j < m ∧ s.testBit j = true then nJoin (nLeave (G.1 j)) R0 10 p else G.1 j, fun r' => if r' = 10 then R' else rLv (G.2 r') s m)
/-- the new ring gets the index that the class gave it -/
theorem mC_ren {p : Bool} (H : mC n w sg u A B (gFm G s (rNew G n s r) R' p n)) (hr : r < n) (h9 : ∀ j, j < n → (G.1 j).1 2 0 ≤ 8) (hno : ∀ j, j < n → s.testBit j = false → (G.1 j).1 2 0 ≠ r) (hsg : ∀ k, k ≠ r → sg' k = sg k) (hsr : sg' r = sg 10) (hI : rIs R' (hxf G s n + 1) s) (h5 : ∀ j, j < n → R'.1 5 j = 0) (hu : ∀ j, j < n → u 5 j = false) : mC n w sg' u A B (gForm G n s r p) := by
  obtain ⟨⟨c1, c1'⟩, c2, c3⟩ := H
  have hn := c1.2.2.2.1
  have hin : ∀ j, j < n → s.testBit j = true → (gFm G s (rNew G n s r) R' p n).1 j = nJoin (nLeave (G.1 j)) (rNew G n s r) 10 p := fun j hj hb => if_pos ⟨hj, hb⟩
  have hout : ∀ j, s.testBit j = false → (gFm G s (rNew G n s r) R' p n).1 j = G.1 j := fun j hb => if_neg (fun z => by rw [hb] at z; exact absurd z.2 (by decide))
  have fin : ∀ j, j < n → s.testBit j = true → (gForm G n s r p).1 j = nsI (nJoin (nLeave (G.1 j)) (rNew G n s r) 10 p) 2 0 r := fun j hj hb => (if_pos ⟨hj, hb⟩ : (gForm G n s r p).1 j = _).trans (nJoin_ren _ _ _ _)
  have fout : ∀ j, s.testBit j = false → (gForm G n s r p).1 j = G.1 j := fun j hb => if_neg (fun z => by rw [hb] at z; exact absurd z.2 (by decide))
  have j2 : ∀ j, (nJoin (nLeave (G.1 j)) (rNew G n s r) 10 p).1 2 0 = 10 := fun j => (nJoin_f _ _ _ _).1
  have cs : ∀ j, s.testBit j = true ∨ s.testBit j = false := fun j => by cases s.testBit j <;> simp
  -- rings by node
  have ri : ∀ j, j < n → s.testBit j = true → ((gForm G n s r p).1 j).1 2 0 = r ∧ ((gFm G s (rNew G n s r) R' p n).1 j).1 2 0 = 10 := fun j hj hb => ⟨by rw [fin j hj hb, n1_eq], by rw [hin j hj hb]; exact j2 j⟩
  -- rings' records
  have rr : (gForm G n s r p).2 r = rNew G n s r := if_pos rfl
  have r10 : (gFm G s (rNew G n s r) R' p n).2 10 = R' := by
    show (if (10 : Nat) = 10 then R' else rLv (G.2 10) s n) = R'
    rw [if_pos rfl]
  have ro : ∀ r', r' ≠ r → r' ≠ 10 → (gForm G n s r p).2 r' = (gFm G s (rNew G n s r) R' p n).2 r' := fun r' a b => (if_neg a : (gForm G n s r p).2 r' = rLv (G.2 r') s n).trans (if_neg b : (gFm G s (rNew G n s r) R' p n).2 r' = rLv (G.2 r') s n).symm
  obtain ⟨i0, i1, i2, i3⟩ := hI
  refine ⟨⟨c1, by rw [hsg 9 (by omega)]; exact c1'⟩, fun j hj => ?_, fun a b ha hb ha8 hb8 es => ?_⟩
  · rcases cs j with hb | hb
    · obtain ⟨⟨a1, a2, a3, a4⟩, b1, b2, b3⟩ := c2 j hj
      obtain ⟨e1, e2⟩ := ri j hj hb
      have eN : ∀ f x, f ≠ 2 → ((gForm G n s r p).1 j).1 f x = ((gFm G s (rNew G n s r) R' p n).1 j).1 f x := fun f x hf => by rw [fin j hj hb, n1_ne _ _ _ _ hf, hin j hj hb]
      have eNj : ((gForm G n s r p).1 j).2 = ((gFm G s (rNew G n s r) R' p n).1 j).2 := by rw [fin j hj hb, hin j hj hb]; rfl
      refine ⟨⟨fun f hf hf2 hf6 hf7 => ?_, ?_, fun y hy h12 => ?_, fun q hq => ?_⟩, ?_, fun _ q q1 q2 => ?_, fun _ => ?_⟩
      · rw [eN f 0 hf2]
        exact a1 f hf hf2 hf6 (fun _ => by rw [e2]; omega)
      · rw [eNj]; exact a2
      · rw [eN 11 0 (by omega)] at hy
        rw [eN 12 y (by omega), eN 13 y (by omega), eNj]; exact a3 y hy h12
      · rw [eN 14 q (by omega), eN 15 q (by omega), eNj]; exact a4 q hq
      · unfold mNr at b1 ⊢
        rw [e2, if_neg (by omega)] at b1
        rw [e1, if_neg (by omega), hsr]; exact b1
      · rw [e1, rr, (rNew_0 G n s r).2.2.2] at q2
        exact absurd q2 (by omega)
      · have z := b3 (by rw [e2]; omega)
        rw [e2] at z
        rw [e1]
        obtain ⟨d1, d2, d3, d4, ⟨lo, tk, f1, f2, f3, f4, f5, f6⟩, d6, d7⟩ := z
        rw [r10] at d2 d3 d4 f5 f6 d6 d7
        obtain ⟨n0, n1, n2, n3⟩ := rNew_0 G n s r
        unfold mRg
        rw [rr, hsr, n0, n1, n2, n3]
        rw [i0] at d2
        rw [i1] at d3 f5
        rw [i3] at d4
        rw [i2] at f6
        refine ⟨d1, d2, d3, d4, ⟨lo, tk, f1, f2, f3, f4, f5, ?_⟩, fun q q1 q2 => absurd q2 (by omega), fun y hy hu' => ?_⟩
        · rw [f6, (ri tk f4 f5).1, (ri tk f4 f5).2]
          exact z_ifc2 ⟨fun z => ⟨z.1, rfl⟩, fun z => ⟨z.1, rfl⟩⟩
        · have := d7 y hy (fun x => by rw [hu y hy] at x; exact absurd x.1 (by decide))
          rw [this, h5 y hy]
          have e5 : (rNew G n s r).1 5 y = 0 := by
            show (if 5 = 5 ∧ y < 8 then 0 else _) = 0
            rw [if_pos ⟨rfl, by omega⟩]
          rw [e5]
    · obtain ⟨⟨a1, a2, a3, a4⟩, b1, b2, b3⟩ := c2 j hj
      have hne := hno j hj hb
      have h10 : (G.1 j).1 2 0 ≠ 10 := by have := h9 j hj; omega
      rw [hout j hb] at a1 a2 a3 a4 b1 b2 b3
      unfold mNn
      rw [fout j hb, ro _ hne h10]
      refine ⟨⟨a1, a2, a3, a4⟩, ?_, ?_, fun h8 => ?_⟩
      · unfold mNr
        rw [hsg _ hne]; exact b1
      · unfold mNh
        rw [hsg _ hne]; exact b2
      · obtain ⟨d1, d2, d3, d4, ⟨lo, tk, f1, f2, f3, f4, f5, f6⟩, d6, d7⟩ := b3 h8
        unfold mRg
        rw [hsg _ hne, ro _ hne h10]
        refine ⟨d1, d2, d3, d4, ⟨lo, tk, f1, f2, f3, f4, f5, ?_⟩, d6, fun y hy _ => d7 y hy (fun x => by rw [hu y hy] at x; exact absurd x.1 (by decide))⟩
        rw [f6]
        rcases cs tk with ht | ht
        · rw [(ri tk f4 ht).1, (ri tk f4 ht).2]
          rw [if_neg (fun z => h10 z.2.symm), if_neg (fun z => hne z.2.symm)]
        · rw [hout tk ht, fout tk ht]
  · rcases cs a with h1 | h1
    · rcases cs b with h2 | h2
      · rw [(ri a ha h1).1, (ri b hb h2).1]
      · have hne := hno b hb h2
        have h10 : (G.1 b).1 2 0 ≠ 10 := by have := h9 b hb; omega
        rw [fout b h2] at es hb8 ⊢
        rw [(ri a ha h1).1] at es ⊢
        rw [hsr, hsg _ hne] at es
        have := c3 a b ha hb (by rw [(ri a ha h1).2]; omega) (by rw [hout b h2]; exact hb8) (by rw [(ri a ha h1).2, hout b h2]; exact es)
        rw [(ri a ha h1).2, hout b h2] at this
        exact absurd this.symm h10
    · have hne := hno a ha h1
      have h10 : (G.1 a).1 2 0 ≠ 10 := by have := h9 a ha; omega
      rw [fout a h1] at es ha8 ⊢
      rw [hsg _ hne] at es
      rcases cs b with h2 | h2
      · rw [(ri b hb h2).1] at es ⊢
        rw [hsr] at es
        have := c3 a b ha hb (by rw [hout a h1]; exact ha8) (by rw [(ri b hb h2).2]; omega) (by rw [(ri b hb h2).2, hout a h1]; exact es)
        rw [(ri b hb h2).2, hout a h1] at this
        exact absurd this h10
      · have hne2 := hno b hb h2
        rw [fout b h2] at es hb8 ⊢
        rw [hsg _ hne2] at es
        have := c3 a b ha hb (by rw [hout a h1]; exact ha8) (by rw [hout b h2]; exact hb8) (by rw [hout a h1, hout b h2]; exact es)
        rw [hout a h1, hout b h2] at this
        exact this
end
