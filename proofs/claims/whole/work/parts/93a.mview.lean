/-! THE REFERENCE'S CELLS. sg 9: what thrown says. Delivered and safe to of a node of no ring aren't shown. ar k: the object (0), its arrays (3 .. 35). sg: the slot of a ring. u 6 j: delivered of node j isn't shown; u 5 j: the token's full of j in its own ring isn't shown. -/
def mkd (k : Nat) : Nat := if k = 7 ∨ k = 9 ∨ k = 14 ∨ k = 21 ∨ k = 23 ∨ k = 31 then 9 else if k = 3 ∨ k = 15 ∨ k = 19 ∨ k = 26 ∨ k = 32 ∨ k = 34 then 10 else 8
def mln (k : Nat) : Nat := if k = 7 ∨ k = 35 then 128 else if k = 13 ∨ k = 14 ∨ k = 15 then 96 else if k = 19 ∨ k = 20 ∨ k = 21 then 808 else if k = 23 then 4800 else if k = 24 ∨ k = 25 ∨ k = 26 ∨ k = 27 ∨ k = 28 then 16 else if 29 ≤ k then 1616 else 8
def zMs (Z : zZ) (ar : Nat → Nat) : Prop := zk Z (ar 0) 7 ∧ (∀ k, 3 ≤ k → k < 36 → zQ Z (ar 0) k = some (ar k) ∧ zk Z (ar k) (mkd k) ∧ zN Z (ar k) = mln k) ∧ ∀ k k', ar k = ar k' ↔ k = k'
/-- which array has node field f -/
def mA (f : Nat) : Nat := if f = 0 then 3 else if f = 1 then 4 else if f = 3 then 6 else if f = 4 then 10 else if f = 5 then 11 else if f = 6 then 16 else if f = 7 then 17 else if f = 8 then 8 else if f = 9 then 22 else if f = 10 then 18 else 12
theorem mA_inj : ∀ f, f < 12 → f ≠ 2 → ∀ g, g < 12 → g ≠ 2 → mA f = mA g → f = g := by decide
theorem mA_rg : ∀ f, f < 12 → f ≠ 2 → 3 ≤ mA f ∧ mA f < 24 ∧ mA f ≠ 5 ∧ mA f ≠ 13 ∧ mA f ≠ 15 ∧ mA f ≠ 19 ∧ mA f ≠ 20 ∧ mln (mA f) = 8 := by decide
def mNa (A : Nat → Nat → Int32) (B : Nat → Nat → Int64) (u : Nat → Nat → Bool) (j : Nat) (N : nT) : Prop :=
  (∀ f, f < 12 → f ≠ 2 → (f = 6 → u 6 j = false) → (f = 6 ∨ f = 7 → N.1 2 0 ≠ 8) → A (mA f) j = nI (N.1 f 0)) ∧
  (B 9 j = N.2 0 0 ∧ (∀ k, k < 16 → B 7 (16 * j + k) = N.2 1 k) ∧ ∀ q, q < 600 → B 23 (600 * j + q) = N.2 2 q) ∧
  (∀ k, k < N.1 11 0 → k < 12 → A 13 (12 * j + k) = nI (N.1 12 k) ∧ B 14 (12 * j + k) = N.2 12 k ∧ A 15 (12 * j + k) = nI (N.1 13 k)) ∧
  (∀ p, p < 101 → A 19 (101 * j + p) = nI (N.1 14 p) ∧ A 20 (101 * j + p) = nI (N.1 15 p) ∧ B 21 (101 * j + p) = N.2 14 p)
def mNr (A : Nat → Nat → Int32) (sg : Nat → Nat) (j : Nat) (N : nT) : Prop := A 5 j = if N.1 2 0 = 8 then -1 else nI (sg (N.1 2 0))
def mNh (A : Nat → Nat → Int32) (sg : Nat → Nat) (j : Nat) (N R : nT) : Prop := N.1 2 0 ≠ 8 → ∀ p, 1 ≤ p → p ≤ R.1 3 0 → bt (A 33 (101 * sg (N.1 2 0) + p)) j = decide (N.1 16 p ≠ 0)
/-- a ring in use -/
def mRg (A : Nat → Nat → Int32) (B : Nat → Nat → Int64) (n : Nat) (sg : Nat → Nat) (u : Nat → Nat → Bool) (G : gT) (r : Nat) : Prop :=
  sg r < 16 ∧ A 24 (sg r) = nI ((G.2 r).1 0 0) ∧ A 25 (sg r) = nI ((G.2 r).1 1 0) ∧ A 28 (sg r) = nI ((G.2 r).1 3 0) ∧
  (∃ lo tk, A 26 (sg r) = nI lo ∧ lo < 2 ∧ A 27 (sg r) = nI tk ∧ tk < n ∧ ((G.2 r).1 1 0).testBit tk = true ∧ (G.2 r).1 2 0 = if lo = 0 ∧ (G.1 tk).1 2 0 = r then tk + 1 else 0) ∧
  (∀ p, 1 ≤ p → p ≤ (G.2 r).1 3 0 → A 29 (101 * sg r + p) = nI ((G.2 r).1 6 p) ∧ A 30 (101 * sg r + p) = nI ((G.2 r).1 7 p) ∧ B 31 (101 * sg r + p) = (G.2 r).2 6 p ∧ A 32 (101 * sg r + p) = nI ((G.2 r).1 8 p) ∧ A 34 (101 * sg r + p) = nI ((G.2 r).1 4 p)) ∧
  ∀ j, j < n → ¬ (u 5 j = true ∧ (G.1 j).1 2 0 = r) → A 35 (8 * sg r + j) = nI ((G.2 r).1 5 j)
def mNn (A : Nat → Nat → Int32) (B : Nat → Nat → Int64) (n : Nat) (sg : Nat → Nat) (u : Nat → Nat → Bool) (G : gT) (j : Nat) : Prop := mNa A B u j (G.1 j) ∧ mNr A sg j (G.1 j) ∧ mNh A sg j (G.1 j) (G.2 ((G.1 j).1 2 0)) ∧ ((G.1 j).1 2 0 ≠ 8 → mRg A B n sg u G ((G.1 j).1 2 0))
def mX (n : Nat) (sg : Nat → Nat) (G : gT) : Prop := ∀ i j, i < n → j < n → (G.1 i).1 2 0 ≠ 8 → (G.1 j).1 2 0 ≠ 8 → sg ((G.1 i).1 2 0) = sg ((G.1 j).1 2 0) → (G.1 i).1 2 0 = (G.1 j).1 2 0
def mC (n w : Nat) (sg : Nat → Nat) (u : Nat → Nat → Bool) (A : Nat → Nat → Int32) (B : Nat → Nat → Int64) (G : gT) : Prop := ((A 0 1 = nI n ∧ A 0 2 = nI w ∧ 2 ≤ n ∧ n ≤ 8 ∧ w ≤ 8) ∧ A 0 0 = nI (sg 9)) ∧ (∀ j, j < n → mNn A B n sg u G j) ∧ mX n sg G
def mI (S : zS) (ar : Nat → Nat) : Nat → Nat → Int32 := fun k => zI S (ar k)
def mJ (S : zS) (ar : Nat → Nat) : Nat → Nat → Int64 := fun k => zJ S (ar k)
def zMb (Z : zZ) (S0 : zS) (ar : Nat → Nat) (S : zS) : Prop := zMs Z ar ∧ ∀ a, (∀ k, k < 36 → a ≠ ar k) → zAt S0 S a
def zMV (Z : zZ) (S0 : zS) (ar : Nat → Nat) (n w : Nat) (sg : Nat → Nat) (u : Nat → Nat → Bool) (S : zS) (G : gT) : Prop := zMb Z S0 ar S ∧ mC n w sg u (mI S ar) (mJ S ar) G
/-! writes -/
theorem mI_I {S : zS} {ar : Nat → Nat} (h : ∀ k k', ar k = ar k' ↔ k = k') (k j : Nat) (v : Int32) : mI (zsI S (ar k) j v) ar = zu (mI S ar) k j v := by
  funext k' x
  show (if ar k' = ar k ∧ x = j then v else zI S (ar k') x) = if k' = k ∧ x = j then v else zI S (ar k') x
  exact z_ifc2 (by rw [h])
theorem mJ_I (S : zS) (ar : Nat → Nat) (k j : Nat) (v : Int32) : mJ (zsI S (ar k) j v) ar = mJ S ar := rfl
theorem mI_J (S : zS) (ar : Nat → Nat) (k j : Nat) (v : Int64) : mI (zsJ S (ar k) j v) ar = mI S ar := rfl
theorem mJ_J {S : zS} {ar : Nat → Nat} (h : ∀ k k', ar k = ar k' ↔ k = k') (k j : Nat) (v : Int64) : mJ (zsJ S (ar k) j v) ar = zu (mJ S ar) k j v := by
  funext k' x
  show (if ar k' = ar k ∧ x = j then v else zJ S (ar k') x) = if k' = k ∧ x = j then v else zJ S (ar k') x
  exact z_ifc2 (by rw [h])
section
variable {Z : zZ} {S0 S : zS} {ar : Nat → Nat} {n w : Nat} {sg : Nat → Nat} {u : Nat → Nat → Bool} {G : gT} {i : Nat} {N : nT} {A : Nat → Nat → Int32} {B : Nat → Nat → Int64}
theorem zMb_I (h : zMb Z S0 ar S) {k : Nat} (hk : k < 36) (j : Nat) (v : Int32) : zMb Z S0 ar (zsI S (ar k) j v) := ⟨h.1, fun a ha => zAt_tr (h.2 a ha) (zAt_sI S j v (ha k hk))⟩
theorem zMb_J (h : zMb Z S0 ar S) {k : Nat} (hk : k < 36) (j : Nat) (v : Int64) : zMb Z S0 ar (zsJ S (ar k) j v) := ⟨h.1, fun a ha => zAt_tr (h.2 a ha) (zAt_sJ S j v (ha k hk))⟩
theorem zMV_I (h : zMb Z S0 ar S) {k : Nat} (hk : k < 36) {j : Nat} {v : Int32} (H : mC n w sg u (zu (mI S ar) k j v) (mJ S ar) G) : zMV Z S0 ar n w sg u (zsI S (ar k) j v) G := ⟨zMb_I h hk j v, by rw [mI_I h.1.2.2, mJ_I]; exact H⟩
theorem zMV_J (h : zMb Z S0 ar S) {k : Nat} (hk : k < 36) {j : Nat} {v : Int64} (H : mC n w sg u (mI S ar) (zu (mJ S ar) k j v) G) : zMV Z S0 ar n w sg u (zsJ S (ar k) j v) G := ⟨zMb_J h hk j v, by rw [mJ_J h.1.2.2, mI_J]; exact H⟩
theorem mV_k (H : zMV Z S0 ar n w sg u S G) {k : Nat} (h3 : 3 ≤ k) (h : k < 36) : zQ Z (ar 0) k = some (ar k) ∧ zk Z (ar k) (mkd k) ∧ zN Z (ar k) = mln k := H.1.1.2.1 k h3 h
theorem mV_0 (H : zMV Z S0 ar n w sg u S G) : zk Z (ar 0) 7 := H.1.1.1
theorem mV_n (H : zMV Z S0 ar n w sg u S G) : zI S (ar 0) 1 = nI n ∧ zI S (ar 0) 2 = nI w ∧ 2 ≤ n ∧ n ≤ 8 ∧ w ≤ 8 := H.2.1.1
theorem mV_th (H : zMV Z S0 ar n w sg u S G) : zI S (ar 0) 0 = nI (sg 9) := H.2.1.2
theorem mV_N (H : zMV Z S0 ar n w sg u S G) {j : Nat} (hj : j < n) : mNn (mI S ar) (mJ S ar) n sg u G j := H.2.2.1 j hj
theorem zu_at {α : Type} (f : Nat → Nat → α) (a j : Nat) (v : α) (x : Nat) : zu f a j v a x = if x = j then v else f a x := congrFun (zu_eq f a j v) x
/-- node i's record changes, but for its ring and what it has; cells of nodes' arrays change -/
theorem mC_node {A' : Nat → Nat → Int32} {B' : Nat → Nat → Int64} {u' : Nat → Nat → Bool} {N' : nT} (H : mC n w sg u A B (gN G i N)) (e0 : A' 0 = A 0) (e5 : A' 5 = A 5) (e24 : ∀ k, 24 ≤ k → A' k = A k ∧ B' k = B k) (eu : u' 5 = u 5) (e2 : N'.1 2 0 = N.1 2 0) (e16 : ∀ p, N'.1 16 p = N.1 16 p) (eo : ∀ j, j < n → j ≠ i → mNa A B u j (G.1 j) → mNa A' B' u' j (G.1 j)) (ei : i < n → mNa A B u i N → mNa A' B' u' i N') : mC n w sg u' A' B' (gN G i N') := by
  obtain ⟨h1, h2, h3⟩ := H
  have er : ∀ j, ((gN G i N').1 j).1 2 0 = ((gN G i N).1 j).1 2 0 := fun j => by
    rw [g1_N, g1_N]
    split
    · exact e2
    · rfl
  have ex : ∀ j p, ((gN G i N').1 j).1 16 p = ((gN G i N).1 j).1 16 p := fun j p => by
    rw [g1_N, g1_N]
    split
    · exact e16 p
    · rfl
  refine ⟨by rw [e0]; exact h1, fun j hj => ⟨?_, ?_, ?_, ?_⟩, ?_⟩
  · have z := (h2 j hj).1
    by_cases e : j = i
    · subst e
      rw [g1_Ns] at z ⊢
      exact ei hj z
    · rw [g1_Nn _ _ e] at z ⊢
      exact eo j hj e z
  · unfold mNr
    rw [er, e5]; exact (h2 j hj).2.1
  · unfold mNh
    rw [er, (e24 33 (by omega)).1]
    intro h8 p p1 p2
    rw [ex]
    exact (h2 j hj).2.2.1 h8 p p1 p2
  · rw [er]
    intro h8
    have z := (h2 j hj).2.2.2 h8
    unfold mRg at z ⊢
    rw [(e24 24 (by omega)).1, (e24 25 (by omega)).1, (e24 28 (by omega)).1, (e24 26 (by omega)).1, (e24 27 (by omega)).1, (e24 29 (by omega)).1, (e24 30 (by omega)).1, (e24 31 (by omega)).2, (e24 32 (by omega)).1, (e24 34 (by omega)).1, (e24 35 (by omega)).1, eu]
    obtain ⟨a1, a2, a3, a4, ⟨lo, tk, b1, b2, b3, b4, b5, b6⟩, a6, a7⟩ := z
    exact ⟨a1, a2, a3, a4, ⟨lo, tk, b1, b2, b3, b4, b5, by rw [er tk]; exact b6⟩, a6, fun m hm hu => a7 m hm (by rw [er m] at hu; exact hu)⟩
  · intro a b ha hb
    rw [er, er]
    exact h3 a b ha hb
end
