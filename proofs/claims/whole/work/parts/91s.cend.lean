/-! all of a set have what one has; the end of a ring -/
def nGets (N R : nT) (A : Nat → Bool) : nT := (fun f j => if A j = true then (if f = 16 then 1 else if R.1 8 j ≠ 0 ∧ prim N R = true ∧ f = 14 then 1 else if R.1 8 j ≠ 0 ∧ prim N R = true ∧ f = 15 then R.1 7 j else N.1 f j) else N.1 f j, fun f j => if A j = true ∧ R.1 8 j ≠ 0 ∧ prim N R = true ∧ f = 14 then R.2 6 j else N.2 f j)
theorem nGets_ne (N R : nT) (A : Nat → Bool) {f : Nat} (j : Nat) (h1 : f ≠ 16) (h2 : f ≠ 14) (h3 : f ≠ 15) : (nGets N R A).1 f j = N.1 f j := by
  show (if A j = true then (if f = 16 then 1 else if R.1 8 j ≠ 0 ∧ prim N R = true ∧ f = 14 then 1 else if R.1 8 j ≠ 0 ∧ prim N R = true ∧ f = 15 then R.1 7 j else N.1 f j) else N.1 f j) = _
  by_cases c : A j = true
  · rw [if_pos c, if_neg h1, if_neg (fun z => h2 z.2.2), if_neg (fun z => h3 z.2.2)]
  · rw [if_neg c]
theorem nGets_16 (N R : nT) (A : Nat → Bool) (j : Nat) : (nGets N R A).1 16 j = if A j = true then 1 else N.1 16 j := by
  show (if A j = true then (if 16 = 16 then 1 else _) else N.1 16 j) = _
  rw [if_pos rfl]
theorem nGets_0 (N R : nT) {A : Nat → Bool} (h : ∀ j, A j = false) : nGets N R A = N := by
  refine Prod.ext (funext fun f => funext fun j => ?_) (funext fun f => funext fun j => ?_)
  · show (if A j = true then _ else N.1 f j) = _
    rw [if_neg (by rw [h j]; decide)]
  · show (if A j = true ∧ _ then _ else N.2 f j) = _
    rw [if_neg (fun z => by rw [h j] at z; exact absurd z.1 (by decide))]
theorem nGets_s (N R : nT) (A : Nat → Bool) (p : Nat) : nRecv (nGets N R A) R p = nGets N R (fun j => A j || decide (j = p)) := by
  have hp : prim (nGets N R A) R = prim N R := prim_ne (nGets_ne _ _ _ _ (by omega) (by omega) (by omega))
  unfold nRecv
  rw [hp]
  by_cases hc : R.1 8 p ≠ 0 ∧ prim N R = true
  · rw [if_pos hc]
    refine Prod.ext (funext fun f => funext fun j => ?_) (funext fun f => funext fun j => ?_)
    · show (if f = 15 ∧ j = p then R.1 7 p else if f = 14 ∧ j = p then 1 else if f = 16 ∧ j = p then 1 else (nGets N R A).1 f j) = if (A j || decide (j = p)) = true then (if f = 16 then 1 else if R.1 8 j ≠ 0 ∧ prim N R = true ∧ f = 14 then 1 else if R.1 8 j ≠ 0 ∧ prim N R = true ∧ f = 15 then R.1 7 j else N.1 f j) else N.1 f j
      by_cases e : j = p
      · subst e
        rw [if_pos (c := (A j || decide (j = j)) = true) (by simp)]
        by_cases h15 : f = 15
        · rw [if_pos ⟨h15, rfl⟩, if_neg (by omega), if_neg (fun z => by omega), if_pos ⟨hc.1, hc.2, h15⟩]
        · rw [if_neg (fun z => h15 z.1)]
          by_cases h14 : f = 14
          · rw [if_pos ⟨h14, rfl⟩, if_neg (by omega), if_pos ⟨hc.1, hc.2, h14⟩]
          · rw [if_neg (fun z => h14 z.1)]
            by_cases h16 : f = 16
            · rw [if_pos ⟨h16, rfl⟩, if_pos h16]
            · rw [if_neg (fun z => h16 z.1), nGets_ne _ _ _ _ h16 h14 h15, if_neg h16, if_neg (fun z => h14 z.2.2), if_neg (fun z => h15 z.2.2)]
      · rw [if_neg (fun z => e z.2), if_neg (fun z => e z.2), if_neg (fun z => e z.2)]
        show (if A j = true then _ else _) = _
        exact z_ifc2 (by simp [e])
    · show (if f = 14 ∧ j = p then R.2 6 p else (nGets N R A).2 f j) = if (A j || decide (j = p)) = true ∧ R.1 8 j ≠ 0 ∧ prim N R = true ∧ f = 14 then R.2 6 j else N.2 f j
      by_cases e : j = p
      · subst e
        by_cases h14 : f = 14
        · rw [if_pos ⟨h14, rfl⟩, if_pos ⟨by simp, hc.1, hc.2, h14⟩]
        · rw [if_neg (fun z => h14 z.1), if_neg (fun z => h14 z.2.2.2)]
          show (if A j = true ∧ R.1 8 j ≠ 0 ∧ prim N R = true ∧ f = 14 then R.2 6 j else N.2 f j) = _
          rw [if_neg (fun z => h14 z.2.2.2)]
      · rw [if_neg (fun z => e z.2)]
        show (if A j = true ∧ _ then _ else _) = _
        exact z_ifc2 (by simp [e])
  · rw [if_neg hc]
    refine Prod.ext (funext fun f => funext fun j => ?_) (funext fun f => funext fun j => ?_)
    · show (if f = 16 ∧ j = p then 1 else (nGets N R A).1 f j) = if (A j || decide (j = p)) = true then (if f = 16 then 1 else if R.1 8 j ≠ 0 ∧ prim N R = true ∧ f = 14 then 1 else if R.1 8 j ≠ 0 ∧ prim N R = true ∧ f = 15 then R.1 7 j else N.1 f j) else N.1 f j
      by_cases e : j = p
      · subst e
        rw [if_pos (c := (A j || decide (j = j)) = true) (by simp)]
        by_cases h16 : f = 16
        · rw [if_pos ⟨h16, rfl⟩, if_pos h16]
        · rw [if_neg (fun z => h16 z.1), if_neg h16, if_neg (fun z => hc ⟨z.1, z.2.1⟩), if_neg (fun z => hc ⟨z.1, z.2.1⟩)]
          show (if A j = true then (if f = 16 then 1 else if R.1 8 j ≠ 0 ∧ prim N R = true ∧ f = 14 then 1 else if R.1 8 j ≠ 0 ∧ prim N R = true ∧ f = 15 then R.1 7 j else N.1 f j) else N.1 f j) = _
          by_cases c : A j = true
          · rw [if_pos c, if_neg h16, if_neg (fun z => hc ⟨z.1, z.2.1⟩), if_neg (fun z => hc ⟨z.1, z.2.1⟩)]
          · rw [if_neg c]
      · rw [if_neg (fun z => e z.2)]
        show (if A j = true then _ else _) = _
        exact z_ifc2 (by simp [e])
    · show (nGets N R A).2 f j = if (A j || decide (j = p)) = true ∧ R.1 8 j ≠ 0 ∧ prim N R = true ∧ f = 14 then R.2 6 j else N.2 f j
      show (if A j = true ∧ R.1 8 j ≠ 0 ∧ prim N R = true ∧ f = 14 then R.2 6 j else N.2 f j) = _
      by_cases e : j = p
      · subst e
        rw [if_neg (fun z => hc ⟨z.2.1, z.2.2.1⟩), if_neg (fun z => hc ⟨z.2.1, z.2.2.1⟩)]
      · exact z_ifc2 (by simp [e])
def gGets (G : gT) (n s r : Nat) (A : Nat → Bool) : gT := (fun j => if j < n ∧ s.testBit j = true then nGets (G.1 j) (G.2 r) A else G.1 j, G.2)
theorem gGets_0 (G : gT) (n s r : Nat) {A : Nat → Bool} (h : ∀ j, A j = false) : gGets G n s r A = G := by
  refine Prod.ext (funext fun j => ?_) rfl
  show (if j < n ∧ s.testBit j = true then nGets (G.1 j) (G.2 r) A else G.1 j) = _
  rw [nGets_0 _ _ h]
  split <;> rfl
theorem gGets_s (G : gT) (n s r : Nat) (A : Nat → Bool) (p : Nat) : gGive (gGets G n s r A) (fun j => s.testBit j) r p n = gGets G n s r (fun j => A j || decide (j = p)) := by
  refine Prod.ext (funext fun j => ?_) rfl
  show (if j < n ∧ s.testBit j = true then nRecv (if j < n ∧ s.testBit j = true then nGets (G.1 j) (G.2 r) A else G.1 j) (G.2 r) p else (if j < n ∧ s.testBit j = true then nGets (G.1 j) (G.2 r) A else G.1 j)) = if j < n ∧ s.testBit j = true then nGets (G.1 j) (G.2 r) (fun j => A j || decide (j = p)) else G.1 j
  by_cases c : j < n ∧ s.testBit j = true
  · rw [if_pos c, if_pos c, if_pos c, nGets_s]
  · rw [if_neg c, if_neg c, if_neg c]
theorem gGets_ext (G : gT) (n s r : Nat) {A B : Nat → Bool} (h : ∀ j, A j = B j) : gGets G n s r A = gGets G n s r B := by
  rw [show A = B from funext h]
/-- one of those of s below q has place p -/
def anyf (G : gT) (s p : Nat) : Nat → Bool
  | 0 => false
  | q + 1 => anyf G s p q || (s.testBit q && decide ((G.1 q).1 16 p ≠ 0))
theorem anyf_iff {G : gT} {s p : Nat} : ∀ {q : Nat}, anyf G s p q = true ↔ ∃ j, j < q ∧ s.testBit j = true ∧ (G.1 j).1 16 p ≠ 0 := by
  intro q
  induction q with
  | zero => exact ⟨fun h => Bool.noConfusion h, fun ⟨j, hj, _⟩ => absurd hj (by omega)⟩
  | succ q ih =>
    unfold anyf
    rw [Bool.or_eq_true, ih, Bool.and_eq_true, decide_eq_true_iff]
    constructor
    · rintro (⟨j, a, b⟩ | ⟨a, b⟩)
      · exact ⟨j, by omega, b⟩
      · exact ⟨q, by omega, a, b⟩
    · rintro ⟨j, a, b, c⟩
      by_cases e : j = q
      · subst e; exact Or.inr ⟨b, c⟩
      · exact Or.inl ⟨j, by omega, b, c⟩
/-- the greatest safe place of those of s below q -/
def mxf (G : gT) (s : Nat) : Nat → Nat
  | 0 => 0
  | q + 1 => if s.testBit q = true ∧ mxf G s q < (G.1 q).1 7 0 then (G.1 q).1 7 0 else mxf G s q
theorem mxf_le {G : gT} {s m : Nat} : ∀ {q : Nat}, (∀ j, j < q → (G.1 j).1 7 0 ≤ m) → mxf G s q ≤ m := by
  intro q
  induction q with
  | zero => intro _; exact Nat.zero_le _
  | succ q ih =>
    intro h
    unfold mxf
    split
    · exact h q (by omega)
    · exact ih (fun j hj => h j (by omega))
def gSafe (G : gT) (s m q : Nat) : gT := (fun j => if j < q ∧ s.testBit j = true then nsI (G.1 j) 7 0 m else G.1 j, G.2)
/-- a place from 1 to 100 that one of s has -/
def haveA (G : gT) (n s : Nat) (p : Nat) : Bool := decide (1 ≤ p) && (decide (p ≤ 100) && anyf G s p n)
def gShare (G : gT) (n s r : Nat) : gT := gSafe (gGets G n s r (haveA G n s)) s (mxf G s n) n
theorem gUpd_0 (G : gT) (s : Nat) (F : Nat → nT) : ((fun j => if j < 0 ∧ s.testBit j = true then F j else G.1 j, G.2) : gT) = G := by
  refine Prod.ext (funext fun j => ?_) rfl
  show (if j < 0 ∧ s.testBit j = true then F j else G.1 j) = _
  rw [if_neg (fun q => by omega)]
theorem gUpd_s0 (G : gT) {s : Nat} (F : Nat → nT) {q : Nat} (h : s.testBit q = false) : ((fun j => if j < q + 1 ∧ s.testBit j = true then F j else G.1 j, G.2) : gT) = (fun j => if j < q ∧ s.testBit j = true then F j else G.1 j, G.2) := by
  refine Prod.ext (funext fun j => ?_) rfl
  show (if j < q + 1 ∧ s.testBit j = true then F j else G.1 j) = if j < q ∧ s.testBit j = true then F j else G.1 j
  by_cases e : j = q
  · subst e
    rw [if_neg (fun z => by rw [h] at z; exact absurd z.2 (by decide)), if_neg (fun z => by omega)]
  · exact z_ifc2 ⟨fun z => ⟨by omega, z.2⟩, fun z => ⟨by omega, z.2⟩⟩
theorem gUpd_s1 (G : gT) {s : Nat} (F : Nat → nT) {q : Nat} (h : s.testBit q = true) : ((fun j => if j < q + 1 ∧ s.testBit j = true then F j else G.1 j, G.2) : gT) = gN (fun j => if j < q ∧ s.testBit j = true then F j else G.1 j, G.2) q (F q) := by
  refine Prod.ext (funext fun j => ?_) rfl
  show (if j < q + 1 ∧ s.testBit j = true then F j else G.1 j) = if j = q then F q else if j < q ∧ s.testBit j = true then F j else G.1 j
  by_cases e : j = q
  · subst e
    rw [if_pos ⟨by omega, h⟩, if_pos rfl]
  · rw [if_neg e]
    exact z_ifc2 ⟨fun z => ⟨by omega, z.2⟩, fun z => ⟨by omega, z.2⟩⟩
theorem gUpd_at (G : gT) (s : Nat) (F : Nat → nT) (q : Nat) : ((fun j => if j < q ∧ s.testBit j = true then F j else G.1 j, G.2) : gT).1 q = G.1 q := by
  show (if q < q ∧ s.testBit q = true then F q else G.1 q) = _
  rw [if_neg (fun z => by omega)]
