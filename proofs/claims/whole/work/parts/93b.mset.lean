/-! what the reference writes of one node -/
section
variable {Z : zZ} {S0 S : zS} {ar : Nat → Nat} {n w : Nat} {sg : Nat → Nat} {u u' : Nat → Nat → Bool} {G : gT} {i : Nat} {N : nT} {A : Nat → Nat → Int32} {B : Nat → Nat → Int64}
theorem mn_0 (H : zMV Z S0 ar n w sg u S G) : zMV Z S0 ar n w sg u S (gN G i (G.1 i)) := by rw [gN_self]; exact H
/-- what node i's cells say -/
theorem mv_n (H : zMV Z S0 ar n w sg u S (gN G i N)) (hi : i < n) : mNa (mI S ar) (mJ S ar) u i N ∧ mNr (mI S ar) sg i N ∧ mNh (mI S ar) sg i N (G.2 (N.1 2 0)) ∧ (N.1 2 0 ≠ 8 → mRg (mI S ar) (mJ S ar) n sg u (gN G i N) (N.1 2 0)) := by
  have h := mV_N H hi
  unfold mNn at h
  rw [g1_Ns, g2_N] at h
  exact h
theorem mv_F (H : zMV Z S0 ar n w sg u S (gN G i N)) (hi : i < n) (f : Nat) (hf : f < 12) (h2 : f ≠ 2) (h6 : f = 6 → u 6 i = false) (h7 : f = 6 ∨ f = 7 → N.1 2 0 ≠ 8) : zI S (ar (mA f)) i = nI (N.1 f 0) := (mv_n H hi).1.1 f hf h2 h6 h7
theorem mv_r (H : zMV Z S0 ar n w sg u S (gN G i N)) (hi : i < n) : zI S (ar 5) i = if N.1 2 0 = 8 then -1 else nI (sg (N.1 2 0)) := (mv_n H hi).2.1
/-- more is hidden -/
theorem mC_hide (H : mC n w sg u A B G) (h5 : ∀ j, u' 5 j = false → u 5 j = false) (h6 : ∀ j, u' 6 j = false → u 6 j = false) : mC n w sg u' A B G := by
  obtain ⟨h1, h2, h3⟩ := H
  refine ⟨h1, fun j hj => ?_, h3⟩
  obtain ⟨⟨a1, a2, a3, a4⟩, b, c, d⟩ := h2 j hj
  refine ⟨⟨fun f hf hf2 hf6 hf7 => a1 f hf hf2 (fun e => h6 j (hf6 e)) hf7, a2, a3, a4⟩, b, c, fun h8 => ?_⟩
  obtain ⟨c1, c2, c3, c4, c5, c6, c7⟩ := d h8
  refine ⟨c1, c2, c3, c4, c5, c6, fun m hm hu => c7 m hm (fun z => hu ⟨?_, z.2⟩)⟩
  cases e : u' 5 m
  · have := h5 m e
    rw [this] at z; exact absurd z.1 (by decide)
  · rfl
theorem ms_hide (H : zMV Z S0 ar n w sg u S G) (h5 : ∀ j, u' 5 j = false → u 5 j = false) (h6 : ∀ j, u' 6 j = false → u 6 j = false) : zMV Z S0 ar n w sg u' S G := ⟨H.1, mC_hide H.2 h5 h6⟩
/-- what is hidden may be anything -/
theorem ms_any (H : zMV Z S0 ar n w sg u S (gN G i N)) (hu : u 6 i = true) (v : Nat) : zMV Z S0 ar n w sg u S (gN G i (nsI N 6 0 v)) := by
  refine ⟨H.1, mC_node H.2 rfl rfl (fun k _ => ⟨rfl, rfl⟩) rfl (n1_ne _ _ _ _ (by omega)) (fun p => n1_ne _ _ _ _ (by omega)) (fun j _ _ h => h) (fun hi h => ?_)⟩
  obtain ⟨a1, a2, a3, a4⟩ := h
  refine ⟨fun f hf hf2 hf6 hf7 => ?_, a2, fun k hk => ?_, fun p hp => ?_⟩
  · have : f ≠ 6 := fun e => by rw [hf6 e] at hu; exact Bool.noConfusion hu
    rw [n1_ne _ _ _ _ this]; exact a1 f hf hf2 hf6 hf7
  · rw [n1_ne _ _ _ _ (by omega)] at hk
    rw [n1_ne _ _ _ _ (by omega), n1_ne _ _ _ _ (by omega)]; exact a3 k hk
  · rw [n1_ne _ _ _ _ (by omega), n1_ne _ _ _ _ (by omega)]; exact a4 p hp
theorem mC_F (H : mC n w sg u A B (gN G i N)) (f : Nat) (hf : f < 12) (h2 : f ≠ 2) {v : Nat} (hp : f ≠ 11 ∨ v ≤ N.1 11 0) (hu5 : u' 5 = u 5) (hu6 : ∀ j, u' 6 j = false → u 6 j = false ∨ (f = 6 ∧ j = i)) : mC n w sg u' (zu A (mA f) i (nI v)) B (gN G i (nsI N f 0 v)) := by
  obtain ⟨r1, r2, r5, r13, r15, r19, r20, -⟩ := mA_rg f hf h2
  have e0 : ∀ k, k ≠ mA f → zu A (mA f) i (nI v) k = A k := fun k hk => zu_ne _ _ _ _ _ hk
  refine mC_node H (e0 0 (by omega)) (e0 5 (Ne.symm r5)) (fun k hk => ⟨e0 k (by omega), rfl⟩) hu5 (n1_ne _ _ _ _ (fun e => h2 e.symm)) (fun p => n1_ne _ _ _ _ (by omega)) (fun j hj hji h => ?_) (fun hi h => ?_)
  · obtain ⟨a1, a2, a3, a4⟩ := h
    refine ⟨fun g hg hg2 hg6 hg7 => ?_, a2, fun k hk h12 => ?_, fun p hp => ?_⟩
    · rw [← a1 g hg hg2 (fun e => by rcases hu6 j (hg6 e) with z | z; exact z; exact absurd z.2 hji) hg7]
      by_cases e : mA g = mA f
      · rw [e, zu_at, if_neg hji]
      · rw [e0 _ e]
    · rw [e0 13 (Ne.symm r13), e0 15 (Ne.symm r15)]; exact a3 k hk h12
    · rw [e0 19 (Ne.symm r19), e0 20 (Ne.symm r20)]; exact a4 p hp
  · obtain ⟨a1, a2, a3, a4⟩ := h
    refine ⟨fun g hg hg2 hg6 hg7 => ?_, a2, fun k hk h12 => ?_, fun p hp => ?_⟩
    · by_cases e : g = f
      · subst e
        rw [zu_at, if_pos rfl, n1_eq]
      · rw [e0 _ (fun z => e (mA_inj g hg hg2 f hf h2 z)), n1_ne _ _ _ _ e]
        exact a1 g hg hg2 (fun e6 => by rcases hu6 i (hg6 e6) with z | z; exact z; exact absurd (e6.trans z.1.symm) e) (fun e6 => by have := hg7 e6; rw [n1_ne _ _ _ _ (fun z => h2 z.symm)] at this; exact this)
    · have hk' : k < N.1 11 0 := by
        rw [n1_sI] at hk
        split at hk
        · rename_i q; omega
        · exact hk
      rw [e0 13 (Ne.symm r13), e0 15 (Ne.symm r15), n1_ne _ _ _ _ (by omega), n1_ne _ _ _ _ (by omega)]; exact a3 k hk' h12
    · rw [e0 19 (Ne.symm r19), e0 20 (Ne.symm r20), n1_ne _ _ _ _ (by omega), n1_ne _ _ _ _ (by omega)]; exact a4 p hp
theorem ms_F (H : zMV Z S0 ar n w sg u S (gN G i N)) (f : Nat) (hf : f < 12) (h2 : f ≠ 2) {v : Nat} (hp : f ≠ 11 ∨ v ≤ N.1 11 0) : zMV Z S0 ar n w sg u (zsI S (ar (mA f)) i (nI v)) (gN G i (nsI N f 0 v)) :=
  zMV_I H.1 (by have := mA_rg f hf h2; omega) (mC_F H.2 f hf h2 hp rfl (fun j h => Or.inl h))
/-- delivered is written: shown from now on -/
def uOff (u : Nat → Nat → Bool) (i : Nat) : Nat → Nat → Bool := fun k j => if k = 6 ∧ j = i then false else u k j
def uOn (u : Nat → Nat → Bool) (i : Nat) : Nat → Nat → Bool := fun k j => if k = 6 ∧ j = i then true else u k j
theorem uOff_5 (u : Nat → Nat → Bool) (i : Nat) : uOff u i 5 = u 5 := funext fun j => if_neg (fun z => by omega)
theorem uOn_5 (u : Nat → Nat → Bool) (i : Nat) : uOn u i 5 = u 5 := funext fun j => if_neg (fun z => by omega)
theorem ms_6 (H : zMV Z S0 ar n w sg u S (gN G i N)) {v : Nat} : zMV Z S0 ar n w sg (uOff u i) (zsI S (ar 16) i (nI v)) (gN G i (nsI N 6 0 v)) :=
  zMV_I H.1 (by omega) (mC_F H.2 6 (by omega) (by omega) (by omega) (uOff_5 u i) (fun j h => by
    by_cases e : j = i
    · exact Or.inr ⟨rfl, e⟩
    · unfold uOff at h
      rw [if_neg (fun z => e z.2)] at h
      exact Or.inl h))
theorem uOff_on (u : Nat → Nat → Bool) (i : Nat) (h : u 6 i = false) : uOff (uOn u i) i = u := by
  funext k j
  unfold uOff uOn
  by_cases e : k = 6 ∧ j = i
  · rw [if_pos e, e.1, e.2, h]
  · rw [if_neg e, if_neg e]
theorem uOn_f {u : Nat → Nat → Bool} {i j : Nat} (h : uOn u i 6 j = false) : u 6 j = false := by
  unfold uOn at h
  split at h
  · exact absurd h (by decide)
  · exact h
theorem uOn_t (u : Nat → Nat → Bool) (i : Nat) : uOn u i 6 i = true := if_pos ⟨rfl, rfl⟩
/-- longs: mark, table, log -/
theorem mC_J (H : mC n w sg u A B (gN G i N)) (f x k c : Nat) (v : Int64) (hf : (f = 0 ∧ x = 0 ∧ k = 9 ∧ c = i) ∨ (f = 1 ∧ x < 16 ∧ k = 7 ∧ c = 16 * i + x) ∨ (f = 2 ∧ x < 600 ∧ k = 23 ∧ c = 600 * i + x)) : mC n w sg u A (zu B k c v) (gN G i (nsJ N f x v)) := by
  have e0 : ∀ k', k' ≠ k → zu B k c v k' = B k' := fun k' hk => zu_ne _ _ _ _ _ hk
  refine mC_node H rfl rfl (fun k' hk => ⟨rfl, e0 k' (by omega)⟩) rfl rfl (fun p => rfl) (fun j hj hji h => ?_) (fun hi h => ?_)
  · obtain ⟨a1, ⟨b1, b2, b3⟩, a3, a4⟩ := h
    refine ⟨a1, ⟨?_, fun y hy => ?_, fun y hy => ?_⟩, fun y hy h12 => ?_, fun p hp => ?_⟩
    · by_cases e : 9 = k
      · rw [← e, zu_at, if_neg (by omega)]; exact b1
      · rw [e0 9 e]; exact b1
    · by_cases e : 7 = k
      · rw [← e, zu_at, if_neg (by omega)]; exact b2 y hy
      · rw [e0 7 e]; exact b2 y hy
    · by_cases e : 23 = k
      · rw [← e, zu_at, if_neg (by omega)]; exact b3 y hy
      · rw [e0 23 e]; exact b3 y hy
    · rw [e0 14 (by omega)]; exact a3 y hy h12
    · rw [e0 21 (by omega)]; exact a4 p hp
  · obtain ⟨a1, ⟨b1, b2, b3⟩, a3, a4⟩ := h
    refine ⟨a1, ⟨?_, fun y hy => ?_, fun y hy => ?_⟩, fun y hy h12 => ?_, fun p hp => ?_⟩
    · rw [n2_sJ]
      by_cases e : 9 = k
      · rw [← e, zu_at, if_pos (by omega), if_pos (by omega)]
      · rw [e0 9 e, if_neg (by omega)]; exact b1
    · rw [n2_sJ]
      by_cases e : 7 = k
      · rw [← e, zu_at]
        by_cases e2 : y = x
        · rw [if_pos (by omega), if_pos (by omega)]
        · rw [if_neg (by omega), if_neg (by omega)]; exact b2 y hy
      · rw [e0 7 e, if_neg (by omega)]; exact b2 y hy
    · rw [n2_sJ]
      by_cases e : 23 = k
      · rw [← e, zu_at]
        by_cases e2 : y = x
        · rw [if_pos (by omega), if_pos (by omega)]
        · rw [if_neg (by omega), if_neg (by omega)]; exact b3 y hy
      · rw [e0 23 e, if_neg (by omega)]; exact b3 y hy
    · rw [e0 14 (by omega), n2_ne _ _ _ _ (by omega)]; exact a3 y hy h12
    · rw [e0 21 (by omega), n2_ne _ _ _ _ (by omega)]; exact a4 p hp
theorem ms_J (H : zMV Z S0 ar n w sg u S (gN G i N)) (f x k c : Nat) (v : Int64) (hf : (f = 0 ∧ x = 0 ∧ k = 9 ∧ c = i) ∨ (f = 1 ∧ x < 16 ∧ k = 7 ∧ c = 16 * i + x) ∨ (f = 2 ∧ x < 600 ∧ k = 23 ∧ c = 600 * i + x)) : zMV Z S0 ar n w sg u (zsJ S (ar k) c v) (gN G i (nsJ N f x v)) :=
  zMV_J H.1 (by omega) (mC_J H.2 f x k c v hf)
/-- a place kept -/
theorem mC_K (H : mC n w sg u A B (gN G i N)) {p : Nat} (hp : p < 101) (v key : Nat) (x : Int64) : mC n w sg u (zu (zu A 19 (101 * i + p) (nI v)) 20 (101 * i + p) (nI key)) (zu B 21 (101 * i + p) x) (gN G i (nsJ (nsI (nsI N 14 p v) 15 p key) 14 p x)) := by
  have e0 : ∀ k, k ≠ 19 → k ≠ 20 → zu (zu A 19 (101 * i + p) (nI v)) 20 (101 * i + p) (nI key) k = A k := fun k h1 h2 => (zu_ne _ _ _ _ _ h2).trans (zu_ne _ _ _ _ _ h1)
  have e1 : ∀ k, k ≠ 21 → zu B 21 (101 * i + p) x k = B k := fun k h => zu_ne _ _ _ _ _ h
  have e19 : ∀ c, zu (zu A 19 (101 * i + p) (nI v)) 20 (101 * i + p) (nI key) 19 c = if c = 101 * i + p then nI v else A 19 c := fun c => by rw [zu_ne _ _ _ _ _ (by omega), zu_at]
  have e20 : ∀ c, zu (zu A 19 (101 * i + p) (nI v)) 20 (101 * i + p) (nI key) 20 c = if c = 101 * i + p then nI key else A 20 c := fun c => by rw [zu_at, zu_ne _ _ _ _ _ (by omega)]
  have en : ∀ f y, f ≠ 14 → f ≠ 15 → (nsJ (nsI (nsI N 14 p v) 15 p key) 14 p x).1 f y = N.1 f y := fun f y a b => by rw [n1_sJ, n1_ne _ _ _ _ b, n1_ne _ _ _ _ a]
  have ej : ∀ f y, f ≠ 14 → (nsJ (nsI (nsI N 14 p v) 15 p key) 14 p x).2 f y = N.2 f y := fun f y a => n2_ne _ _ _ _ a
  refine mC_node H (e0 0 (by omega) (by omega)) (e0 5 (by omega) (by omega)) (fun k hk => ⟨e0 k (by omega) (by omega), e1 k (by omega)⟩) rfl (en 2 0 (by omega) (by omega)) (fun y => en 16 y (by omega) (by omega)) (fun j hj hji h => ?_) (fun hi h => ?_)
  · obtain ⟨a1, a2, a3, a4⟩ := h
    refine ⟨fun f hf hf2 hf6 hf7 => ?_, ?_, fun y hy h12 => ?_, fun y hy => ?_⟩
    · have := mA_rg f hf hf2
      rw [e0 _ (by omega) (by omega)]; exact a1 f hf hf2 hf6 hf7
    · rw [e1 9 (by omega), e1 7 (by omega), e1 23 (by omega)]; exact a2
    · rw [e0 13 (by omega) (by omega), e0 15 (by omega) (by omega), e1 14 (by omega)]; exact a3 y hy h12
    · rw [e19, e20, zu_at, if_neg (by omega), if_neg (by omega), if_neg (by omega)]; exact a4 y hy
  · obtain ⟨a1, a2, a3, a4⟩ := h
    refine ⟨fun f hf hf2 hf6 hf7 => ?_, ?_, fun y hy h12 => ?_, fun y hy => ?_⟩
    · have := mA_rg f hf hf2
      rw [e0 _ (by omega) (by omega), en f 0 (by omega) (by omega)]; exact a1 f hf hf2 hf6 (fun z => by have := hf7 z; rw [en 2 0 (by omega) (by omega)] at this; exact this)
    · rw [e1 9 (by omega), e1 7 (by omega), e1 23 (by omega), ej 0 0 (by omega)]
      exact ⟨a2.1, fun k hk => by rw [ej 1 k (by omega)]; exact a2.2.1 k hk, fun k hk => by rw [ej 2 k (by omega)]; exact a2.2.2 k hk⟩
    · rw [en 11 0 (by omega) (by omega)] at hy
      rw [e0 13 (by omega) (by omega), e0 15 (by omega) (by omega), e1 14 (by omega), en 12 y (by omega) (by omega), en 13 y (by omega) (by omega), ej 12 y (by omega)]; exact a3 y hy h12
    · rw [e19, e20, zu_at]
      by_cases e : y = p
      · subst e
        rw [if_pos rfl, if_pos rfl, if_pos rfl, n1_sJ, n1_eq, n1_ne _ _ _ _ (by omega), n1_eq, n2_sJ, if_pos ⟨rfl, rfl⟩]
        exact ⟨rfl, rfl, rfl⟩
      · have k14 : (nsJ (nsI (nsI N 14 p v) 15 p key) 14 p x).1 14 y = N.1 14 y := by rw [n1_sJ, n1_ne _ _ _ _ (by omega), n1_sI, if_neg (fun z => e z.2)]
        have k15 : (nsJ (nsI (nsI N 14 p v) 15 p key) 14 p x).1 15 y = N.1 15 y := by rw [n1_sJ, n1_sI, if_neg (fun z => e z.2), n1_ne _ _ _ _ (by omega)]
        have kJ : (nsJ (nsI (nsI N 14 p v) 15 p key) 14 p x).2 14 y = N.2 14 y := by
          rw [n2_sJ, if_neg (fun z => e z.2)]
          rfl
        rw [if_neg (by omega), if_neg (by omega), if_neg (by omega), k14, k15, kJ]
        exact a4 y hy
theorem ms_K (H : zMV Z S0 ar n w sg u S (gN G i N)) {p : Nat} (hp : p < 101) (v key : Nat) (x : Int64) : zMV Z S0 ar n w sg u (zsJ (zsI (zsI S (ar 19) (101 * i + p) (nI v)) (ar 20) (101 * i + p) (nI key)) (ar 21) (101 * i + p) x) (gN G i (nsJ (nsI (nsI N 14 p v) 15 p key) 14 p x)) := by
  refine zMV_J (zMb_I (zMb_I H.1 (by omega) _ _) (by omega) _ _) (by omega) ?_
  rw [mI_I H.1.1.2.2, mI_I H.1.1.2.2, mJ_I, mJ_I]
  exact mC_K H.2 hp v key x
theorem ms_K0 (H : zMV Z S0 ar n w sg u S (gN G i N)) {p : Nat} (hp : p < 101) : zMV Z S0 ar n w sg u (zsI S (ar 19) (101 * i + p) 0) (gN G i (nsI N 14 p 0)) := by
  have en : ∀ f y, f ≠ 14 → (nsI N 14 p 0).1 f y = N.1 f y := fun f y a => n1_ne _ _ _ _ a
  have e0 : ∀ k, k ≠ 19 → zu (mI S ar) 19 (101 * i + p) 0 k = mI S ar k := fun k h1 => zu_ne _ _ _ _ _ h1
  refine zMV_I H.1 (by omega) (mC_node H.2 (e0 0 (by omega)) (e0 5 (by omega)) (fun k hk => ⟨e0 k (by omega), rfl⟩) rfl (en 2 0 (by omega)) (fun y => en 16 y (by omega)) (fun j hj hji h => ?_) (fun hi h => ?_))
  · obtain ⟨a1, a2, a3, a4⟩ := h
    refine ⟨fun f hf hf2 hf6 hf7 => ?_, a2, fun y hy h12 => ?_, fun y hy => ?_⟩
    · have := mA_rg f hf hf2
      rw [e0 _ (by omega)]; exact a1 f hf hf2 hf6 hf7
    · rw [e0 13 (by omega), e0 15 (by omega)]; exact a3 y hy h12
    · rw [zu_at, e0 20 (by omega), if_neg (by omega)]; exact a4 y hy
  · obtain ⟨a1, a2, a3, a4⟩ := h
    refine ⟨fun f hf hf2 hf6 hf7 => ?_, a2, fun y hy h12 => ?_, fun y hy => ?_⟩
    · have := mA_rg f hf hf2
      rw [e0 _ (by omega), en f 0 (by omega)]; exact a1 f hf hf2 hf6 (fun z => by have := hf7 z; rw [en 2 0 (by omega)] at this; exact this)
    · rw [en 11 0 (by omega)] at hy
      rw [e0 13 (by omega), e0 15 (by omega), en 12 y (by omega), en 13 y (by omega)]; exact a3 y hy h12
    · rw [zu_at, e0 20 (by omega), en 15 y (by omega), n1_sI]
      by_cases e : y = p
      · subst e
        rw [if_pos rfl, if_pos ⟨rfl, rfl⟩]
        exact ⟨rfl, (a4 y hy).2⟩
      · rw [if_neg (by omega), if_neg (fun z => e z.2)]; exact a4 y hy
end
