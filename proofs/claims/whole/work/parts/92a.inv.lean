/-! WHAT HOLDS OF A STATE BETWEEN CALLS -/
def iv_nd (n : Nat) (G : gT) : Prop := ∀ j, j < n → ((G.1 j).1 0 0 < 2 ∧ (G.1 j).1 1 0 < 8 ∧ zri n ((G.1 j).1 2 0) ∧ (G.1 j).1 5 0 < 2 ^ n ∧ (G.1 j).1 5 0 ≠ 0) ∧ ((G.1 j).1 6 0 ≤ 100 ∧ (G.1 j).1 7 0 ≤ 100 ∧ (G.1 j).1 9 0 ≤ 100 ∧ (G.1 j).1 11 0 ≤ 12) ∧ (∀ q, q < (G.1 j).1 11 0 → (G.1 j).1 12 q < 16 ∧ (G.1 j).1 13 q < 2) ∧ ∀ p, (G.1 j).1 14 p < 2 ∧ ((G.1 j).1 14 p ≠ 0 → (G.1 j).1 15 p < 16 ∧ p < 101)
def iv_rg (n : Nat) (G : gT) : Prop := ∀ r, ((G.2 r).1 1 0 < 2 ^ n ∧ (G.2 r).1 2 0 ≤ n ∧ (G.2 r).1 3 0 ≤ 100) ∧ (∀ p, p < 101 → (G.2 r).1 4 p < 2) ∧ (∀ j, j < 8 → (G.2 r).1 5 j ≤ 100) ∧ ∀ p, p < 101 → (G.2 r).1 6 p < 8 ∧ (G.2 r).1 7 p < 16 ∧ (G.2 r).1 8 p < 2
def iv_t (n : Nat) (G : gT) (t l : Nat) : Prop := (∀ j, j < n → (G.1 j).1 3 0 ≤ t ∧ (G.1 j).1 4 0 ≤ t ∧ (G.1 j).1 8 0 ≤ l ∧ (G.1 j).1 10 0 ≤ l) ∧ ∀ r, (G.2 r).1 0 0 ≤ t
def iv_has (n : Nat) (G : gT) : Prop := ∀ j, j < n → ∀ p, (G.1 j).1 16 p ≠ 0 → (G.1 j).1 2 0 ≠ 8 ∧ 1 ≤ p ∧ p ≤ (G.2 ((G.1 j).1 2 0)).1 3 0
def iv_req (G : gT) : Prop := ∀ r p, p < 101 → (G.2 r).1 4 p ≠ 0 → 1 ≤ p ∧ p ≤ (G.2 r).1 3 0
def iv_hold (n : Nat) (G : gT) : Prop := ∀ r h, h < n → (G.2 r).1 2 0 = h + 1 → (G.1 h).1 2 0 = r
def iv_none (G : gT) : Prop := (G.2 8).1 0 0 = 0 ∧ (G.2 8).1 1 0 = 0 ∧ (G.2 8).1 2 0 = 0
def iv_up (n : Nat) (G : gT) : Prop := ∀ j, j < n → (G.1 j).1 0 0 = 0 → (G.1 j).1 2 0 = 8
def iv_idle (n : Nat) (G : gT) : Prop := ∀ j, j < n → (G.1 j).1 2 0 = 8 → (G.1 j).1 6 0 = 0 ∧ (G.1 j).1 7 0 = 0
def iv_mem (n : Nat) (G : gT) : Prop := ∀ j, j < n → (G.1 j).1 2 0 ≠ 8 → ((G.2 ((G.1 j).1 2 0)).1 1 0).testBit j = true
def iv_num (n : Nat) (G : gT) : Prop := ∀ j, j < n → (G.1 j).1 2 0 ≠ 8 → 1 ≤ (G.2 ((G.1 j).1 2 0)).1 0 0
def iv_vh (n : Nat) (G : gT) : Prop := ∀ j, j < n → (G.1 j).1 4 0 ≤ (G.1 j).1 3 0
def iv_vm (n : Nat) (G : gT) : Prop := ∀ i j, i < n → j < n → (G.1 i).1 4 0 = (G.1 j).1 4 0 → (G.1 i).1 5 0 = (G.1 j).1 5 0
def iv_one (n : Nat) (G : gT) : Prop := ∀ i j, i < n → j < n → (G.1 i).1 2 0 ≠ 8 → (G.1 j).1 2 0 ≠ 8 → (G.1 i).1 4 0 = (G.2 ((G.1 i).1 2 0)).1 0 0 → (G.1 j).1 4 0 = (G.2 ((G.1 j).1 2 0)).1 0 0 → (G.1 i).1 4 0 = (G.1 j).1 4 0 → (G.1 i).1 2 0 = (G.1 j).1 2 0
def iv_dm (n : Nat) (G : gT) : Prop := ∀ j, j < n → (G.1 j).1 2 0 ≠ 8 → ∀ m, m < n → ((G.2 ((G.1 j).1 2 0)).1 1 0).testBit m = true → (G.2 ((G.1 j).1 2 0)).1 0 0 ≤ (G.1 m).1 3 0
def iv_dj (n : Nat) (G : gT) : Prop := ∀ i j, i < n → j < n → (G.1 i).1 2 0 ≠ 8 → (G.1 j).1 2 0 ≠ 8 → (G.1 i).1 2 0 ≠ (G.1 j).1 2 0 → (G.2 ((G.1 i).1 2 0)).1 0 0 = (G.2 ((G.1 j).1 2 0)).1 0 0 → ∀ m, ¬ (((G.2 ((G.1 i).1 2 0)).1 1 0).testBit m = true ∧ ((G.2 ((G.1 j).1 2 0)).1 1 0).testBit m = true)
def iv_q (n : Nat) (G : gT) : Prop := ∀ i k, i < n → k < n → (G.1 i).1 4 0 < (G.1 k).1 4 0 → quor (mk (fun m => decide ((G.1 i).1 4 0 < (G.1 m).1 4 0)) n) ((G.1 i).1 5 0) = true
def iv_k1 (n : Nat) (G : gT) : Prop := ∀ i j, i < n → j < n → ∀ p, (G.1 i).1 4 0 = (G.1 j).1 4 0 → (G.1 i).1 14 p ≠ 0 → (G.1 j).1 14 p ≠ 0 → (G.1 i).1 15 p = (G.1 j).1 15 p ∧ (G.1 i).2 14 p = (G.1 j).2 14 p
def iv_k2 (n : Nat) (G : gT) : Prop := ∀ i j, i < n → j < n → ∀ p, (G.1 j).1 2 0 ≠ 8 → (G.1 j).1 4 0 = (G.2 ((G.1 j).1 2 0)).1 0 0 → (G.1 i).1 4 0 = (G.1 j).1 4 0 → (G.1 i).1 14 p ≠ 0 → p ≤ (G.2 ((G.1 j).1 2 0)).1 3 0 ∧ (G.1 i).1 15 p = (G.2 ((G.1 j).1 2 0)).1 7 p ∧ (G.1 i).2 14 p = (G.2 ((G.1 j).1 2 0)).2 6 p
/-- the deep part: votes, rings' numbers, what is kept -/
def iv_V (n : Nat) (G : gT) : Prop := iv_mem n G ∧ iv_num n G ∧ iv_vh n G ∧ iv_vm n G ∧ iv_one n G ∧ iv_dm n G ∧ iv_dj n G ∧ iv_q n G
def iv_K (n : Nat) (G : gT) : Prop := iv_k1 n G ∧ iv_k2 n G
def iv_S (n : Nat) (G : gT) : Prop := iv_has n G ∧ iv_req G ∧ iv_hold n G ∧ iv_none G ∧ iv_up n G ∧ iv_idle n G
def gW (n : Nat) (G : gT) (t l : Nat) : Prop := iv_nd n G ∧ iv_rg n G ∧ iv_t n G t l ∧ iv_S n G ∧ iv_V n G ∧ iv_K n G
/-- the deep part looks at few fields -/
theorem iv_V_of {n : Nat} {G G' : gT} (h : iv_V n G) (e1 : ∀ j, j < n → (G'.1 j).1 2 0 = (G.1 j).1 2 0 ∧ (G'.1 j).1 3 0 = (G.1 j).1 3 0 ∧ (G'.1 j).1 4 0 = (G.1 j).1 4 0 ∧ (G'.1 j).1 5 0 = (G.1 j).1 5 0) (e2 : ∀ r, (G'.2 r).1 0 0 = (G.2 r).1 0 0 ∧ (G'.2 r).1 1 0 = (G.2 r).1 1 0) : iv_V n G' := by
  obtain ⟨a1, a2, a3, a4, a5, a6, a7, a8⟩ := h
  refine ⟨fun j hj => ?_, fun j hj => ?_, fun j hj => ?_, fun i j hi hj => ?_, fun i j hi hj => ?_, fun j hj h8 m hm => ?_, fun i j hi hj => ?_, fun i k hi hk => ?_⟩
  · rw [(e1 j hj).1, (e2 _).2]; exact a1 j hj
  · rw [(e1 j hj).1, (e2 _).1]; exact a2 j hj
  · rw [(e1 j hj).2.1, (e1 j hj).2.2.1]; exact a3 j hj
  · rw [(e1 j hj).2.2.1, (e1 j hj).2.2.2, (e1 i hi).2.2.1, (e1 i hi).2.2.2]; exact a4 i j hi hj
  · rw [(e1 j hj).2.2.1, (e1 j hj).1, (e1 i hi).2.2.1, (e1 i hi).1, (e2 _).1, (e2 _).1]; exact a5 i j hi hj
  · rw [(e1 j hj).1] at h8 ⊢
    rw [(e2 _).1, (e2 _).2, (e1 m hm).2.1]; exact a6 j hj h8 m hm
  · rw [(e1 j hj).1, (e1 i hi).1, (e2 _).1, (e2 _).1, (e2 _).2, (e2 _).2]; exact a7 i j hi hj
  · have e : mk (fun m => decide ((G'.1 i).1 4 0 < (G'.1 m).1 4 0)) n = mk (fun m => decide ((G.1 i).1 4 0 < (G.1 m).1 4 0)) n := mk_ext (fun m hm => by rw [(e1 i hi).2.2.1, (e1 m hm).2.2.1])
    rw [e, (e1 i hi).2.2.1, (e1 k hk).2.2.1, (e1 i hi).2.2.2]; exact a8 i k hi hk
theorem iv_K_of {n : Nat} {G G' : gT} (h : iv_K n G) (e1 : ∀ j, j < n → (G'.1 j).1 2 0 = (G.1 j).1 2 0 ∧ (G'.1 j).1 4 0 = (G.1 j).1 4 0 ∧ ∀ p, (G'.1 j).1 14 p = (G.1 j).1 14 p ∧ (G'.1 j).1 15 p = (G.1 j).1 15 p ∧ (G'.1 j).2 14 p = (G.1 j).2 14 p) (e2 : ∀ r, (G'.2 r).1 0 0 = (G.2 r).1 0 0 ∧ (G.2 r).1 3 0 ≤ (G'.2 r).1 3 0 ∧ ∀ p, p ≤ (G.2 r).1 3 0 → (G'.2 r).1 7 p = (G.2 r).1 7 p ∧ (G'.2 r).2 6 p = (G.2 r).2 6 p) : iv_K n G' := by
  obtain ⟨a1, a2⟩ := h
  refine ⟨fun i j hi hj p => ?_, fun i j hi hj p h8 hv hij hp => ?_⟩
  · obtain ⟨-, i4, ip⟩ := e1 i hi
    obtain ⟨-, j4, jp⟩ := e1 j hj
    rw [i4, j4, (ip p).1, (ip p).2.1, (ip p).2.2, (jp p).1, (jp p).2.1, (jp p).2.2]; exact a1 i j hi hj p
  · obtain ⟨-, i4, ip⟩ := e1 i hi
    obtain ⟨j2, j4, jp⟩ := e1 j hj
    rw [j2] at h8 hv ⊢
    rw [(e2 _).1, j4] at hv
    rw [i4, j4] at hij
    rw [(ip p).1] at hp
    obtain ⟨b1, b2, b3⟩ := a2 i j hi hj p h8 hv hij hp
    obtain ⟨-, c2, c3⟩ := e2 ((G.1 j).1 2 0)
    rw [(ip p).2.1, (ip p).2.2, (c3 p b1).1, (c3 p b1).2]
    exact ⟨by omega, b2, b3⟩
/-- who keeps more than before keeps messages of its own primary ring -/
theorem iv_K_more {n : Nat} {G G' : gT} (hV : iv_V n G) (h : iv_K n G) (e2 : G'.2 = G.2) (key : ∀ j, j < n → (G'.1 j).1 4 0 = (G.1 j).1 4 0 ∧ (G'.1 j).1 2 0 = (G.1 j).1 2 0 ∧ ∀ x, (((G'.1 j).1 14 x = (G.1 j).1 14 x ∧ (G'.1 j).1 15 x = (G.1 j).1 15 x ∧ (G'.1 j).2 14 x = (G.1 j).2 14 x) ∨ ((G.1 j).1 2 0 ≠ 8 ∧ x ≤ (G.2 ((G.1 j).1 2 0)).1 3 0 ∧ (G.1 j).1 4 0 = (G.2 ((G.1 j).1 2 0)).1 0 0 ∧ (G'.1 j).1 15 x = (G.2 ((G.1 j).1 2 0)).1 7 x ∧ (G'.1 j).2 14 x = (G.2 ((G.1 j).1 2 0)).2 6 x))) : iv_K n G' := by
  obtain ⟨a1, a2⟩ := h
  obtain ⟨-, -, -, -, one, -, -, -⟩ := hV
  have k2n : ∀ i j, i < n → j < n → ∀ x, (G.1 j).1 2 0 ≠ 8 → (G.1 j).1 4 0 = (G.2 ((G.1 j).1 2 0)).1 0 0 → (G.1 i).1 4 0 = (G.1 j).1 4 0 → (G'.1 i).1 14 x ≠ 0 → x ≤ (G.2 ((G.1 j).1 2 0)).1 3 0 ∧ (G'.1 i).1 15 x = (G.2 ((G.1 j).1 2 0)).1 7 x ∧ (G'.1 i).2 14 x = (G.2 ((G.1 j).1 2 0)).2 6 x := fun i j hi hj x h8 hv hij hx => by
    rcases (key i hi).2.2 x with ⟨b1, b2, b3⟩ | ⟨b0, b1, b3, b4, b5⟩
    · rw [b1] at hx
      rw [b2, b3]
      exact a2 i j hi hj x h8 hv hij hx
    · have e := one i j hi hj b0 h8 b3 hv hij
      rw [e] at b1 b4 b5
      exact ⟨b1, b4, b5⟩
  refine ⟨fun i j hi hj x hv hxi hxj => ?_, fun i j hi hj x h8 hv hij hx => ?_⟩
  · obtain ⟨i4, i2, ii⟩ := key i hi
    obtain ⟨j4, j2, jj⟩ := key j hj
    rw [i4, j4] at hv
    rcases ii x with ⟨b1, b2, b3⟩ | ⟨b0, b1, b3, b4, b5⟩
    · rcases jj x with ⟨c1, c2, c3⟩ | ⟨c0, c1, c3, c4, c5⟩
      · rw [b1] at hxi
        rw [c1] at hxj
        rw [b2, b3, c2, c3]
        exact a1 i j hi hj x hv hxi hxj
      · have := k2n i j hi hj x c0 c3 hv hxi
        rw [c4, c5]
        exact ⟨this.2.1, this.2.2⟩
    · have := k2n j i hj hi x b0 b3 hv.symm hxj
      rw [b4, b5]
      exact ⟨this.2.1.symm, this.2.2.symm⟩
  · obtain ⟨i4, i2, -⟩ := key i hi
    obtain ⟨j4, j2, -⟩ := key j hj
    rw [j2, e2] at hv
    rw [j2] at h8
    rw [j2, e2]
    rw [j4] at hv
    rw [i4, j4] at hij
    exact k2n i j hi hj x h8 hv hij hx
theorem prim_num {N R : nT} (h : prim N R = true) : N.1 4 0 = R.1 0 0 := by
  unfold prim at h
  rw [Bool.and_eq_true, decide_eq_true_iff, decide_eq_true_iff] at h
  exact h.2.symm
/-- what a receiver keeps -/
theorem nRecv_K (N R : nT) (p x : Nat) : ((nRecv N R p).1 14 x = N.1 14 x ∧ (nRecv N R p).1 15 x = N.1 15 x ∧ (nRecv N R p).2 14 x = N.2 14 x) ∨ (x = p ∧ N.1 4 0 = R.1 0 0 ∧ (nRecv N R p).1 15 x = R.1 7 x ∧ (nRecv N R p).2 14 x = R.2 6 x) := by
  unfold nRecv
  by_cases c2 : R.1 8 p ≠ 0 ∧ prim N R = true
  · rw [if_pos c2]
    by_cases ex : x = p
    · refine Or.inr ⟨ex, prim_num c2.2, ?_, ?_⟩
      · rw [n1_sJ, ex, n1_eq]
      · rw [n2_sJ, if_pos ⟨rfl, ex⟩, ex]
    · refine Or.inl ⟨?_, ?_, ?_⟩
      · rw [n1_sJ, n1_ne _ _ _ _ (by omega), n1_sI, if_neg (fun z => ex z.2), n1_ne _ _ _ _ (by omega)]
      · rw [n1_sJ, n1_sI, if_neg (fun z => ex z.2), n1_ne _ _ _ _ (by omega), n1_ne _ _ _ _ (by omega)]
      · rw [n2_sJ, if_neg (fun z => ex z.2)]; rfl
  · rw [if_neg c2]
    exact Or.inl ⟨n1_ne _ _ _ _ (by omega), n1_ne _ _ _ _ (by omega), rfl⟩
theorem iv_K_give {n : Nat} {G : gT} {P : Nat → Bool} {r p : Nat} (hV : iv_V n G) (h : iv_K n G) (hr8 : r ≠ 8) (hP : ∀ j, j < n → P j = true → (G.1 j).1 2 0 = r) (hp : p ≤ (G.2 r).1 3 0) (q : Nat) : iv_K n (gGive G P r p q) := by
  refine iv_K_more hV h rfl (fun j hj => ⟨gGive_ne _ _ _ _ _ _ _ (by omega) (by omega) (by omega), gGive_ne _ _ _ _ _ _ _ (by omega) (by omega) (by omega), fun x => ?_⟩)
  by_cases c : j < q ∧ P j = true
  · have e : (gGive G P r p q).1 j = nRecv (G.1 j) (G.2 r) p := if_pos c
    have hr := hP j hj c.2
    rw [e, hr]
    rcases nRecv_K (G.1 j) (G.2 r) p x with h | ⟨h1, h2, h3, h4⟩
    · exact Or.inl h
    · exact Or.inr ⟨hr8, by omega, h2, h3, h4⟩
  · have e : (gGive G P r p q).1 j = G.1 j := if_neg c
    rw [e]
    exact Or.inl ⟨rfl, rfl, rfl⟩
