/-! what the reference writes of a ring in use -/
theorem zu_n {α : Type} {f : Nat → Nat → α} {a j : Nat} {v : α} {b i : Nat} (h : i ≠ j) : zu f a j v b i = f b i := by
  show (if b = a ∧ i = j then v else f b i) = _
  rw [if_neg (fun q => h q.2)]
section
variable {Z : zZ} {S0 S : zS} {ar : Nat → Nat} {n w : Nat} {sg : Nat → Nat} {u u' : Nat → Nat → Bool} {G : gT} {i : Nat} {N : nT} {A A' : Nat → Nat → Int32} {B B' : Nat → Nat → Int64} {r : Nat} {R' : nT}
theorem mRg_other {r' : Nat} (hne : r' ≠ r) (h : mRg A B n sg u G r') : mRg A B n sg u (gR G r R') r' := by
  unfold mRg at h ⊢
  rw [g2_Rn _ _ hne]
  exact h
theorem mC_ring (H : mC n w sg u A B G) (e : ∀ k, k < 24 → A' k = A k ∧ B' k = B k) (e33 : A' 33 = A 33) (e3 : R'.1 3 0 = (G.2 r).1 3 0) (hu6 : ∀ j, u' 6 j = u 6 j) (ho : ∀ r', r' ≠ r → r' ≠ 8 → sg r' ≠ sg r → mRg A B n sg u (gR G r R') r' → mRg A' B' n sg u' (gR G r R') r') (hs : r ≠ 8 → (∃ i, i < n ∧ (G.1 i).1 2 0 = r) → mRg A B n sg u G r → mRg A' B' n sg u' (gR G r R') r) (hin : r ≠ 8 ∧ ∃ i, i < n ∧ (G.1 i).1 2 0 = r) : mC n w sg u' A' B' (gR G r R') := by
  obtain ⟨c1, c2, c3⟩ := H
  refine ⟨by rw [(e 0 (by omega)).1]; exact c1, fun j hj => ⟨?_, ?_, ?_, fun h8 => ?_⟩, c3⟩
  · obtain ⟨a1, a2, a3, a4⟩ := (c2 j hj).1
    rw [g1_R]
    refine ⟨fun f hf hf2 hf6 hf7 => ?_, ?_, fun k hk h12 => ?_, fun q hq => ?_⟩
    · have := mA_rg f hf hf2
      rw [(e _ (by omega)).1]; exact a1 f hf hf2 (fun z => by rw [← hu6]; exact hf6 z) hf7
    · rw [(e 9 (by omega)).2, (e 7 (by omega)).2, (e 23 (by omega)).2]; exact a2
    · rw [(e 13 (by omega)).1, (e 14 (by omega)).2, (e 15 (by omega)).1]; exact a3 k hk h12
    · rw [(e 19 (by omega)).1, (e 20 (by omega)).1, (e 21 (by omega)).2]; exact a4 q hq
  · unfold mNr
    rw [(e 5 (by omega)).1, g1_R]; exact (c2 j hj).2.1
  · unfold mNh
    rw [e33, g1_R, g2_R]
    have z := (c2 j hj).2.2.1
    unfold mNh at z
    split
    · rename_i q
      rw [e3, ← q]; exact z
    · exact z
  · rw [g1_R] at h8 ⊢
    have z := (c2 j hj).2.2.2 h8
    by_cases q : (G.1 j).1 2 0 = r
    · rw [q] at z ⊢
      exact hs hin.1 hin.2 z
    · obtain ⟨i, hi, hir⟩ := hin.2
      exact ho _ q h8 (fun es => q ((c3 j i hj hi h8 (by rw [hir]; exact hin.1) (by rw [hir]; exact es)).trans hir)) (mRg_other q z)
/-- a request -/
theorem ms_Rq (H : zMV Z S0 ar n w sg u S G) (hin : r ≠ 8 ∧ ∃ i, i < n ∧ (G.1 i).1 2 0 = r) (hl : ∀ r, (G.2 r).1 3 0 ≤ 100) {p : Nat} (h1 : 1 ≤ p) (h2 : p ≤ 100) (v : Nat) : zMV Z S0 ar n w sg u (zsI S (ar 34) (101 * sg r + p) (nI v)) (gR G r (nsI (G.2 r) 4 p v)) := by
  have e0 : ∀ k, k ≠ 34 → zu (mI S ar) 34 (101 * sg r + p) (nI v) k = mI S ar k := fun k hk => zu_ne _ _ _ _ _ hk
  refine zMV_I H.1 (by omega) (mC_ring H.2 (fun k hk => ⟨e0 k (by omega), rfl⟩) (e0 33 (by omega)) (n1_ne _ _ _ _ (by omega)) (fun j => rfl) (fun r' hr hr8 hsg z => ?_) (fun _ _ z => ?_) hin)
  · obtain ⟨a1, a2, a3, a4, a5, a6, a7⟩ := z
    refine ⟨a1, by rw [e0 24 (by omega)]; exact a2, by rw [e0 25 (by omega)]; exact a3, by rw [e0 28 (by omega)]; exact a4, by rw [e0 26 (by omega), e0 27 (by omega)]; exact a5, fun q q1 q2 => ?_, by rw [e0 35 (by omega)]; exact a7⟩
    have hl' : q ≤ 100 := by
      rw [g2_Rn _ _ hr] at q2
      exact Nat.le_trans q2 (hl r')
    rw [e0 29 (by omega), e0 30 (by omega), e0 32 (by omega), zu_n (by omega)]
    exact a6 q q1 q2
  · obtain ⟨a1, a2, a3, a4, a5, a6, a7⟩ := z
    have en : ∀ f x, f ≠ 4 → (nsI (G.2 r) 4 p v).1 f x = (G.2 r).1 f x := fun f x hf => n1_ne _ _ _ _ hf
    unfold mRg
    rw [g2_Rs]
    refine ⟨a1, by rw [e0 24 (by omega), en 0 0 (by omega)]; exact a2, by rw [e0 25 (by omega), en 1 0 (by omega)]; exact a3, by rw [e0 28 (by omega), en 3 0 (by omega)]; exact a4, by rw [e0 26 (by omega), e0 27 (by omega), en 1 0 (by omega), en 2 0 (by omega)]; exact a5, fun q q1 q2 => ?_, fun j hj hu => by rw [e0 35 (by omega), en 5 j (by omega)]; exact a7 j hj hu⟩
    rw [en 3 0 (by omega)] at q2
    obtain ⟨b1, b2, b3, b4, b5⟩ := a6 q q1 q2
    rw [e0 29 (by omega), e0 30 (by omega), e0 32 (by omega), en 6 q (by omega), en 7 q (by omega), en 8 q (by omega)]
    refine ⟨b1, b2, b3, b4, ?_⟩
    rw [zu_at, n1_sI]
    by_cases e : q = p
    · rw [if_pos (by omega), if_pos ⟨rfl, e⟩]
    · rw [if_neg (by omega), if_neg (fun y => e y.2)]; exact b5
/-- the token's full of a node, hidden: anything may stand there -/
theorem ms_R5h (H : zMV Z S0 ar n w sg u S G) (hi : i < n) (hr : (G.1 i).1 2 0 ≠ 8) (hu : u 5 i = true) (v : Int32) : zMV Z S0 ar n w sg u (zsI S (ar 35) (8 * sg ((G.1 i).1 2 0) + i) v) G := by
  have e0 : ∀ k, k ≠ 35 → zu (mI S ar) 35 (8 * sg ((G.1 i).1 2 0) + i) v k = mI S ar k := fun k hk => zu_ne _ _ _ _ _ hk
  have hn := (mV_n H).2.2.2.1
  have H' := zMV_I (sg := sg) (u := u) (w := w) (n := n) (G := gR G ((G.1 i).1 2 0) (G.2 ((G.1 i).1 2 0))) H.1 (k := 35) (by omega) (j := 8 * sg ((G.1 i).1 2 0) + i) (v := v) (mC_ring H.2 (fun k hk => ⟨e0 k (by omega), rfl⟩) (e0 33 (by omega)) rfl (fun j => rfl) (fun r' hr' hr8 hsg z => ?_) (fun _ _ z => ?_) ⟨hr, i, hi, rfl⟩)
  · rw [gR_self] at H'
    exact H'
  · obtain ⟨a1, a2, a3, a4, a5, a6, a7⟩ := z
    refine ⟨a1, by rw [e0 24 (by omega)]; exact a2, by rw [e0 25 (by omega)]; exact a3, by rw [e0 28 (by omega)]; exact a4, by rw [e0 26 (by omega), e0 27 (by omega)]; exact a5, by rw [e0 29 (by omega), e0 30 (by omega), e0 32 (by omega), e0 34 (by omega)]; exact a6, fun j hj hu => ?_⟩
    rw [zu_n (by omega)]
    exact a7 j hj hu
  · rw [gR_self]
    obtain ⟨a1, a2, a3, a4, a5, a6, a7⟩ := z
    refine ⟨a1, by rw [e0 24 (by omega)]; exact a2, by rw [e0 25 (by omega)]; exact a3, by rw [e0 28 (by omega)]; exact a4, by rw [e0 26 (by omega), e0 27 (by omega)]; exact a5, by rw [e0 29 (by omega), e0 30 (by omega), e0 32 (by omega), e0 34 (by omega)]; exact a6, fun j hj hu' => ?_⟩
    have : j ≠ i := fun e => hu' (by rw [e]; exact ⟨hu, rfl⟩)
    rw [zu_n (by omega)]
    exact a7 j hj hu'
def uOff5 (u : Nat → Nat → Bool) (i : Nat) : Nat → Nat → Bool := fun k j => if k = 5 ∧ j = i then false else u k j
def uOn5 (u : Nat → Nat → Bool) (i : Nat) : Nat → Nat → Bool := fun k j => if k = 5 ∧ j = i then true else u k j
theorem uOff5_6 (u : Nat → Nat → Bool) (i j : Nat) : uOff5 u i 6 j = u 6 j := if_neg (fun z => by omega)
theorem uOn5_6 (u : Nat → Nat → Bool) (i j : Nat) : uOn5 u i 6 j = u 6 j := if_neg (fun z => by omega)
theorem uOn5_t (u : Nat → Nat → Bool) (i : Nat) : uOn5 u i 5 i = true := if_pos ⟨rfl, rfl⟩
theorem uOn5_f {u : Nat → Nat → Bool} {i j : Nat} (h : uOn5 u i 5 j = false) : u 5 j = false := by
  unfold uOn5 at h
  split at h
  · exact absurd h (by decide)
  · exact h
theorem uOff5_on (u : Nat → Nat → Bool) (i : Nat) (h : u 5 i = false) : uOff5 (uOn5 u i) i = u := by
  funext k j
  unfold uOff5 uOn5
  by_cases e : k = 5 ∧ j = i
  · rw [if_pos e, e.1, e.2, h]
  · rw [if_neg e, if_neg e]
/-- the token's full of a node -/
theorem ms_R5 (H : zMV Z S0 ar n w sg u S G) (hi : i < n) (hr : (G.1 i).1 2 0 = r) (hr8 : r ≠ 8) (v : Nat) : zMV Z S0 ar n w sg (uOff5 u i) (zsI S (ar 35) (8 * sg r + i) (nI v)) (gR G r (nsI (G.2 r) 5 i v)) := by
  have e0 : ∀ k, k ≠ 35 → zu (mI S ar) 35 (8 * sg r + i) (nI v) k = mI S ar k := fun k hk => zu_ne _ _ _ _ _ hk
  have hn := (mV_n H).2.2.2.1
  have hof : ∀ j, j ≠ i → uOff5 u i 5 j = u 5 j := fun j hj => if_neg (fun z => hj z.2)
  refine zMV_I H.1 (by omega) (mC_ring H.2 (fun k hk => ⟨e0 k (by omega), rfl⟩) (e0 33 (by omega)) (n1_ne _ _ _ _ (by omega)) (fun j => uOff5_6 u i j) (fun r' hr' hr8' hsg z => ?_) (fun _ _ z => ?_) ⟨hr8, i, hi, hr⟩)
  · obtain ⟨a1, a2, a3, a4, a5, a6, a7⟩ := z
    refine ⟨a1, by rw [e0 24 (by omega)]; exact a2, by rw [e0 25 (by omega)]; exact a3, by rw [e0 28 (by omega)]; exact a4, by rw [e0 26 (by omega), e0 27 (by omega)]; exact a5, by rw [e0 29 (by omega), e0 30 (by omega), e0 32 (by omega), e0 34 (by omega)]; exact a6, fun j hj hu => ?_⟩
    rw [zu_n (by omega)]
    refine a7 j hj (fun y => hu ⟨?_, y.2⟩)
    have hne : j ≠ i := fun e => by rw [e] at y; exact hr' (y.2.symm.trans hr)
    rw [hof j hne]; exact y.1
  · obtain ⟨a1, a2, a3, a4, a5, a6, a7⟩ := z
    have en : ∀ f x, f ≠ 5 → (nsI (G.2 r) 5 i v).1 f x = (G.2 r).1 f x := fun f x hf => n1_ne _ _ _ _ hf
    unfold mRg
    rw [g2_Rs]
    refine ⟨a1, by rw [e0 24 (by omega), en 0 0 (by omega)]; exact a2, by rw [e0 25 (by omega), en 1 0 (by omega)]; exact a3, by rw [e0 28 (by omega), en 3 0 (by omega)]; exact a4, by rw [e0 26 (by omega), e0 27 (by omega), en 1 0 (by omega), en 2 0 (by omega)]; exact a5, fun q q1 q2 => ?_, fun j hj hu => ?_⟩
    · rw [en 3 0 (by omega)] at q2
      rw [e0 29 (by omega), e0 30 (by omega), e0 32 (by omega), e0 34 (by omega), en 6 q (by omega), en 7 q (by omega), en 8 q (by omega), en 4 q (by omega)]
      exact a6 q q1 q2
    · rw [zu_at, n1_sI]
      by_cases e : j = i
      · rw [if_pos (by omega), if_pos ⟨rfl, e⟩]
      · rw [if_neg (by omega), if_neg (fun y => e y.2)]
        refine a7 j hj (fun y => hu ?_)
        rw [hof j e]; exact y
/-- the token -/
theorem ms_Rt (H : zMV Z S0 ar n w sg u S G) (hin : r ≠ 8 ∧ ∃ i, i < n ∧ (G.1 i).1 2 0 = r) {lo tk : Nat} (hlo : lo < 2) (htk : tk < n) (hm : ((G.2 r).1 1 0).testBit tk = true) : zMV Z S0 ar n w sg u (zsI (zsI S (ar 26) (sg r) (nI lo)) (ar 27) (sg r) (nI tk)) (gR G r (nsI (G.2 r) 2 0 (if lo = 0 ∧ (G.1 tk).1 2 0 = r then tk + 1 else 0))) := by
  have hinj := H.1.1.2.2
  have e0 : ∀ k, k ≠ 26 → k ≠ 27 → zu (zu (mI S ar) 26 (sg r) (nI lo)) 27 (sg r) (nI tk) k = mI S ar k := fun k h1 h2 => (zu_ne _ _ _ _ _ h2).trans (zu_ne _ _ _ _ _ h1)
  have e26 : ∀ c, zu (zu (mI S ar) 26 (sg r) (nI lo)) 27 (sg r) (nI tk) 26 c = if c = sg r then nI lo else mI S ar 26 c := fun c => by rw [zu_ne _ _ _ _ _ (by omega), zu_at]
  have e27 : ∀ c, zu (zu (mI S ar) 26 (sg r) (nI lo)) 27 (sg r) (nI tk) 27 c = if c = sg r then nI tk else mI S ar 27 c := fun c => by rw [zu_at, zu_ne _ _ _ _ _ (by omega)]
  refine zMV_I (zMb_I H.1 (by omega) _ _) (by omega) ?_
  rw [mI_I hinj, mJ_I]
  refine mC_ring H.2 (fun k hk => ⟨e0 k (by omega) (by omega), rfl⟩) (e0 33 (by omega) (by omega)) (n1_ne _ _ _ _ (by omega)) (fun j => rfl) (fun r' hr hr8 hsg z => ?_) (fun _ _ z => ?_) hin
  · obtain ⟨a1, a2, a3, a4, ⟨l', t', b1, b2, b3, b4⟩, a6, a7⟩ := z
    refine ⟨a1, by rw [e0 24 (by omega) (by omega)]; exact a2, by rw [e0 25 (by omega) (by omega)]; exact a3, by rw [e0 28 (by omega) (by omega)]; exact a4, ⟨l', t', by rw [e26, if_neg hsg]; exact b1, b2, by rw [e27, if_neg hsg]; exact b3, b4⟩, by rw [e0 29 (by omega) (by omega), e0 30 (by omega) (by omega), e0 32 (by omega) (by omega), e0 34 (by omega) (by omega)]; exact a6, by rw [e0 35 (by omega) (by omega)]; exact a7⟩
  · obtain ⟨a1, a2, a3, a4, a5, a6, a7⟩ := z
    have en : ∀ h f x, f ≠ 2 → (nsI (G.2 r) 2 0 h).1 f x = (G.2 r).1 f x := fun h f x hf => n1_ne _ _ _ _ hf
    unfold mRg
    rw [g2_Rs]
    refine ⟨a1, by rw [e0 24 (by omega) (by omega), en _ 0 0 (by omega)]; exact a2, by rw [e0 25 (by omega) (by omega), en _ 1 0 (by omega)]; exact a3, by rw [e0 28 (by omega) (by omega), en _ 3 0 (by omega)]; exact a4, ⟨lo, tk, by rw [e26, if_pos rfl], hlo, by rw [e27, if_pos rfl], htk, by rw [en _ 1 0 (by omega)]; exact hm, n1_eq _ _ _ _⟩, fun q q1 q2 => ?_, fun j hj hu => by rw [e0 35 (by omega) (by omega), en _ 5 j (by omega)]; exact a7 j hj hu⟩
    rw [en _ 3 0 (by omega)] at q2
    rw [e0 29 (by omega) (by omega), e0 30 (by omega) (by omega), e0 32 (by omega) (by omega), e0 34 (by omega) (by omega), en _ 6 q (by omega), en _ 7 q (by omega), en _ 8 q (by omega), en _ 4 q (by omega)]
    exact a6 q q1 q2
end
