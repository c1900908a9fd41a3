/-! the class's small calls -/
section
variable {Z : zZ} {S0 S : zS} {ad : Nat → Nat → Nat} {n w : Nat} {G : gT} {i : Nat} {N : nT} {t l : Nat}
theorem c_partAll (H : zCV Z S0 ad n w S G) {x y : Int32} {Qp : zS → Prop} {Xp : String → zS → Prop} (k1 : ∀ i g, i < n → x = nI i → g < 8 → y = nI g → ∀ S', zCV Z S0 ad n w S' (gN G i (nsI (G.1 i) 1 0 g)) → Qp S') (k2 : ∀ i, i < n → x = nI i → (y < 0 ∨ 8 ≤ y) → Xp "java/lang/IllegalArgumentException" S) (k3 : (x < 0 ∨ nI n ≤ x) → Xp "java/lang/IndexOutOfBoundsException" S) : w_X6_part Z (ad 0 0) x y S Qp Xp := by
  obtain ⟨r1, r2, r3, r4⟩ := cv_row H
  unfold w_X6_part
  refine ⟨r1, c_nodeAt H (fun i hi hx => ?_) k3⟩
  have d1 := (zCV_nd H hi).1.1
  refine ⟨ad 3 i, rfl, ?_⟩
  unfold wJ_X6_part_16
  rcases pk_ix y (n := 8) (by omega) with h | h | ⟨g, hg, rfl⟩
  · exact ⟨fun _ => k2 i hi hx (Or.inl h), fun q => absurd h q⟩
  · exact ⟨fun _ => k2 i hi hx (Or.inr h), fun q => ⟨fun z => absurd h (Int32.not_le.mpr z), fun _ => k2 i hi hx (Or.inr h)⟩⟩
  · refine ⟨fun q => absurd q (nI_pos (by omega)), fun q => ⟨fun _ => ⟨d1, fun S7 e7 => k1 i g hi hx hg rfl S7 ?_⟩, fun z => absurd (nI_lt hg (by omega)) z⟩⟩
    rw [e7]
    exact cs_I H hi 1 (by omega) (by omega) (v := g) (by omega)
theorem c_restartAll (H : zCV Z S0 ad n w S G) (hb : ∀ j, j < n → (G.1 j).1 0 0 < 2 ^ 30) {x : Int32} {Qp : zS → Prop} {Xp : String → zS → Prop} (k1 : ∀ i, i < n → x = nI i → (G.1 i).1 0 0 = 0 → ∀ S', zCV Z S0 ad n w S' (gN G i (nsI (G.1 i) 0 0 1)) → Qp S') (k2 : ∀ i, i < n → x = nI i → (G.1 i).1 0 0 ≠ 0 → Xp "java/lang/IllegalStateException" S) (k3 : (x < 0 ∨ nI n ≤ x) → Xp "java/lang/IndexOutOfBoundsException" S) : w_X6_restart Z (ad 0 0) x S Qp Xp := by
  obtain ⟨r1, r2, r3, r4⟩ := cv_row H
  unfold w_X6_restart
  refine ⟨r1, c_nodeAt H (fun i hi hx => ?_) k3⟩
  have d1 := (zCV_nd H hi).1.1
  have i0 : zI S (ad 3 i) 5 = nI ((G.1 i).1 0 0) := (cv_g H hi).1.2 0 (by omega) (by omega)
  have e0 : (nI ((G.1 i).1 0 0) = 0) ↔ (G.1 i).1 0 0 = 0 := nI_eq (by have := hb i hi; omega) (by omega : 0 < 2 ^ 31)
  refine ⟨ad 3 i, rfl, d1, ?_⟩
  rw [i0, e0]
  refine ⟨fun q S7 e7 => k1 i hi hx q S7 ?_, fun q => k2 i hi hx q⟩
  rw [e7]
  exact cs_I H hi 0 (by omega) (by omega) (v := 1) (by omega)
/-- a node crashes -/
def gCrash (G : gT) (i : Nat) : gT := gN (gR G ((G.1 i).1 2 0) (rLeave (G.2 ((G.1 i).1 2 0)) i)) i (nLeave (nsI (nsI (G.1 i) 0 0 0) 11 0 0))
theorem c_crashAll (H : zCV Z S0 ad n w S G) (hb : ∀ j, j < n → (G.1 j).1 0 0 < 2 ^ 30) (h2 : ∀ r, (G.2 r).1 2 0 < 2 ^ 30) {x : Int32} {Qp : zS → Prop} {Xp : String → zS → Prop} (k1 : ∀ i, i < n → x = nI i → (G.1 i).1 0 0 ≠ 0 → ∀ S', zCV Z S0 ad n w S' (gCrash G i) → Qp S') (k2 : ∀ i, i < n → x = nI i → (G.1 i).1 0 0 = 0 → Xp "java/lang/IllegalStateException" S) (k3 : (x < 0 ∨ nI n ≤ x) → Xp "java/lang/IndexOutOfBoundsException" S) : w_X6_crash Z (ad 0 0) x S Qp Xp := by
  obtain ⟨r1, r2, r3, r4⟩ := cv_row H
  have q3' : zQ Z (ad 0 0) 3 = some (ad 12 8) := H.1.1.2.2.2
  unfold w_X6_crash
  refine ⟨r1, c_nodeAt H (fun i hi hx => ?_) k3⟩
  obtain ⟨⟨d1, d2, d3, d4, d5⟩, ⟨w1, -⟩, -, -, -⟩ := zCV_nd H hi
  have i0 : zI S (ad 3 i) 5 = nI ((G.1 i).1 0 0) := (cv_g H hi).1.2 0 (by omega) (by omega)
  have e0 : (nI ((G.1 i).1 0 0) = 0) ↔ (G.1 i).1 0 0 = 0 := nI_eq (by have := hb i hi; omega) (by omega : 0 < 2 ^ 31)
  refine ⟨ad 3 i, rfl, d1, ?_⟩
  rw [i0, e0]
  refine ⟨fun q S7 e7 => ⟨ad 4 i, d2, w1, ?_⟩, fun q => k2 i hi hx q⟩
  have H7 := cs_I H hi 0 (by omega) (by omega) (v := 0) (by omega)
  have e7' : S7 = zsI S (ad (cT 0) i) (cS 0) (nI 0) := e7
  rw [← e7'] at H7
  refine c_drop H7 hi (fun S11 H11 => ⟨ad 12 8, q3', ?_⟩)
  have e2 : (nsI (nsI (G.1 i) 0 0 0) 11 0 0).1 2 0 = (G.1 i).1 2 0 := by rw [n1_ne _ _ _ _ (by omega), n1_ne _ _ _ _ (by omega)]
  refine c_leave H11 hi (R := G.2 ((G.1 i).1 2 0)) (by rw [e2]) (h2 _) (fun S14 H14 => k1 i hi hx q S14 ?_)
  rw [e2] at H14
  exact H14
theorem c_tableAll (H : zCV Z S0 ad n w S G) {x y : Int32} {Qp : Int64 → zS → Prop} {Xp : String → zS → Prop} (k1 : ∀ i k, i < n → x = nI i → k < 16 → y = nI k → Qp ((G.1 i).2 1 k) S) (k3 : (x < 0 ∨ nI n ≤ x) → Xp "java/lang/IndexOutOfBoundsException" S) (k4 : ∀ i, i < n → x = nI i → (y < 0 ∨ 16 ≤ y) → Xp "java/lang/IndexOutOfBoundsException" S) : w_X6_table Z (ad 0 0) x y S Qp Xp := by
  obtain ⟨r1, r2, r3, r4⟩ := cv_row H
  unfold w_X6_table
  refine ⟨r1, c_nodeAt H (fun i hi hx => ?_) k3⟩
  obtain ⟨⟨d1, d2, d3, d4, d5⟩, -, ⟨f1, f2, f3, f4, f5, f6, f7⟩, -, -⟩ := zCV_nd H hi
  refine ⟨ad 3 i, rfl, c_key (fun k hk hy => ?_) (fun hy => k4 i hi hx hy)⟩
  subst hy
  refine ⟨d1, ad 6 i, d3, f1, ad 7 i, f2, f4, by rw [f5]; exact vp_in_nI hk (by omega), ?_⟩
  rw [nI_clamp (by omega), (cv_g H hi).2.2.1.2.1 k hk]
  exact k1 i k hi hx hk rfl
theorem c_markAll (H : zCV Z S0 ad n w S G) {x : Int32} {Qp : Int64 → zS → Prop} {Xp : String → zS → Prop} (k1 : ∀ i, i < n → x = nI i → Qp ((G.1 i).2 0 0) S) (k3 : (x < 0 ∨ nI n ≤ x) → Xp "java/lang/IndexOutOfBoundsException" S) : w_X6_mark Z (ad 0 0) x S Qp Xp := by
  obtain ⟨r1, r2, r3, r4⟩ := cv_row H
  unfold w_X6_mark
  refine ⟨r1, c_nodeAt H (fun i hi hx => ?_) k3⟩
  obtain ⟨⟨d1, d2, d3, d4, d5⟩, -, ⟨f1, f2, f3, f4, f5, f6, f7⟩, -, -⟩ := zCV_nd H hi
  refine ⟨ad 3 i, rfl, d1, ad 6 i, d3, f1, ?_⟩
  rw [(cv_g H hi).2.2.1.1]
  exact k1 i hi hx
theorem c_primAll (H : zCV Z S0 ad n w S G) (h1 : ∀ r, (G.2 r).1 0 0 < 2 ^ 30) (h2 : ∀ j, j < n → (G.1 j).1 4 0 < 2 ^ 30) {x : Int32} {Qp : Int32 → zS → Prop} {Xp : String → zS → Prop} (k1 : ∀ i, i < n → x = nI i → Qp (if prim (G.1 i) (G.2 ((G.1 i).1 2 0)) then 1 else 0) S) (k3 : (x < 0 ∨ nI n ≤ x) → Xp "java/lang/IndexOutOfBoundsException" S) : w_X6_primary Z (ad 0 0) x S Qp Xp := by
  obtain ⟨r1, r2, r3, r4⟩ := cv_row H
  unfold w_X6_primary
  refine ⟨r1, c_nodeAt H (fun i hi hx => ?_) k3⟩
  have d1 := (zCV_nd H hi).1.1
  refine ⟨ad 3 i, rfl, d1, c_prim (N := G.1 i) (cn_0 H) hi (h1 _) (h2 i hi) ⟨?_, k1 i hi hx⟩⟩
  cases prim (G.1 i) (G.2 ((G.1 i).1 2 0))
  · exact Or.inl rfl
  · exact Or.inr rfl
/-- what the class tells about a node -/
def gAbout (G : gT) (i k : Nat) : Nat :=
  if k = 0 then (if (G.1 i).1 0 0 = 0 then 0 else 1) else if k = 1 then (G.1 i).1 1 0 else if k = 2 then (G.2 ((G.1 i).1 2 0)).1 0 0 else if k = 3 then (G.2 ((G.1 i).1 2 0)).1 1 0 else if k = 4 then (G.1 i).1 11 0 else if k = 5 then fulf (G.1 i) 100 else if k = 6 then (G.1 i).1 6 0 else if k = 7 then (G.1 i).1 7 0 else if k = 8 then (G.1 i).1 8 0 else if k = 9 then (G.1 i).1 4 0 else if k = 10 then (G.1 i).1 5 0 else if k = 11 then (G.1 i).1 3 0 else if k = 12 then (if (G.2 ((G.1 i).1 2 0)).1 2 0 = i + 1 then 1 else 0) else (G.1 i).1 10 0
theorem c_aboutAll (H : zCV Z S0 ad n w S G) (hb : ∀ j, j < n → (G.1 j).1 0 0 < 2 ^ 30) (h2 : ∀ r, (G.2 r).1 2 0 < 2 ^ 30) {x y : Int32} {Qp : Int32 → zS → Prop} {Xp : String → zS → Prop} (k1 : ∀ i k, i < n → x = nI i → k < 14 → y = nI k → Qp (nI (gAbout G i k)) S) (k2 : ∀ i, i < n → x = nI i → (∀ k, k < 14 → y ≠ nI k) → Xp "java/lang/IllegalArgumentException" S) (k3 : (x < 0 ∨ nI n ≤ x) → Xp "java/lang/IndexOutOfBoundsException" S) : w_X6_about Z (ad 0 0) x y S Qp Xp := by
  obtain ⟨r1, r2, r3, r4⟩ := cv_row H
  have hn := zCV_n H
  unfold w_X6_about
  refine ⟨r1, c_nodeAt H (fun i hi hx => ?_) k3⟩
  subst hx
  have k1 := fun k => k1 i k hi rfl
  obtain ⟨⟨d1, d2, d3, d4, d5⟩, ⟨w1, -⟩, ⟨f1, -⟩, ⟨l1, -⟩, -⟩ := zCV_nd H hi
  have c := (cv_g H hi).1
  have cI := fun f (hf : f < 12) (h2 : f ≠ 2) => c.2 f hf h2
  have hri := (H.2.2.1 i hi).2
  have hrk := (zCV_rg H hri).1
  obtain ⟨⟨g0, g1, g2, g3⟩, -, -⟩ := cv_R H hri
  have hrg := (cv_g H hi).2.1
  have i0 : zI S (ad 3 i) 5 = nI ((G.1 i).1 0 0) := cI 0 (by omega) (by omega)
  have e0 : (nI ((G.1 i).1 0 0) = 0) ↔ (G.1 i).1 0 0 = 0 := nI_eq (by have := hb i hi; omega) (by omega : 0 < 2 ^ 31)
  have e2 : (nI ((G.2 ((G.1 i).1 2 0)).1 2 0) - 1 = nI i) ↔ (G.2 ((G.1 i).1 2 0)).1 2 0 = i + 1 := by
    have hb := h2 ((G.1 i).1 2 0)
    constructor
    · intro q
      refine (nI_eq (by omega) (by omega)).mp ?_
      rw [← nI_1, ← q]
      simp
    · intro q
      rw [q]
      exact nI_pred i
  have n1 : zI S (ad 3 i) 6 = nI ((G.1 i).1 1 0) := cI 1 (by omega) (by omega)
  have n11 : zI S (ad 4 i) 1 = nI ((G.1 i).1 11 0) := cI 11 (by omega) (by omega)
  have n6 : zI S (ad 3 i) 11 = nI ((G.1 i).1 6 0) := cI 6 (by omega) (by omega)
  have n7 : zI S (ad 3 i) 12 = nI ((G.1 i).1 7 0) := cI 7 (by omega) (by omega)
  have n8 : zI S (ad 6 i) 2 = nI ((G.1 i).1 8 0) := cI 8 (by omega) (by omega)
  have n4 : zI S (ad 3 i) 9 = nI ((G.1 i).1 4 0) := cI 4 (by omega) (by omega)
  have n5 : zI S (ad 3 i) 10 = nI ((G.1 i).1 5 0) := cI 5 (by omega) (by omega)
  have n3 : zI S (ad 3 i) 8 = nI ((G.1 i).1 3 0) := cI 3 (by omega) (by omega)
  have n10 : zI S (ad 9 i) 1 = nI ((G.1 i).1 10 0) := cI 10 (by omega) (by omega)
  refine ⟨ad 3 i, rfl, ?_⟩
  rw [i0, e0]
  refine ⟨fun q => ⟨d1, fun z => ?_, fun z => ?_⟩, fun q0 => ⟨fun q => ⟨d1, ?_⟩, fun q1 => ⟨fun q => ⟨d1, _, hrg, hrk, ?_⟩, fun q2 => ⟨fun q => ⟨d1, _, hrg, hrk, ?_⟩, fun q3 => ⟨fun q => ⟨d1, ad 4 i, d2, w1, ?_⟩, fun q4 => ⟨fun q => ⟨d1, c_full (N := G.1 i) (cn_0 H) hi (k1 5 (by omega) q)⟩, fun q5 => ⟨fun q => ⟨d1, ?_⟩, fun q6 => ⟨fun q => ⟨d1, ?_⟩, fun q7 => ⟨fun q => ⟨d1, ad 6 i, d3, f1, ?_⟩, fun q8 => ⟨fun q => ⟨d1, ?_⟩, fun q9 => ⟨fun q => ⟨d1, ?_⟩, fun q10 => ⟨fun q => ⟨d1, ?_⟩, fun q11 => ⟨fun q => ⟨d1, _, hrg, hrk, ?_⟩, fun q12 => ⟨fun q => ⟨d1, ad 9 i, d4, l1, ?_⟩, fun q13 => k2 i hi rfl (fun k hk e => ?_)⟩⟩⟩⟩⟩⟩⟩⟩⟩⟩⟩⟩⟩⟩
  · have h := k1 0 (by omega) q
    have e : gAbout G i 0 = 0 := by unfold gAbout; rw [if_pos rfl, if_pos z]
    rw [e] at h; exact h
  · have h := k1 0 (by omega) q
    have e : gAbout G i 0 = 1 := by unfold gAbout; rw [if_pos rfl, if_neg z]
    rw [e] at h; exact h
  · rw [n1]; exact k1 1 (by omega) q
  · rw [g0]; exact k1 2 (by omega) q
  · rw [g1]; exact k1 3 (by omega) q
  · rw [n11]; exact k1 4 (by omega) q
  · rw [n6]; exact k1 6 (by omega) q
  · rw [n7]; exact k1 7 (by omega) q
  · rw [n8]; exact k1 8 (by omega) q
  · rw [n4]; exact k1 9 (by omega) q
  · rw [n5]; exact k1 10 (by omega) q
  · rw [n3]; exact k1 11 (by omega) q
  · rw [g2, e2]
    have h := k1 12 (by omega) q
    have e : gAbout G i 12 = if (G.2 ((G.1 i).1 2 0)).1 2 0 = i + 1 then 1 else 0 := rfl
    rw [e] at h
    refine ⟨fun z => ?_, fun z => ?_⟩
    · rw [if_neg z] at h; exact h
    · rw [if_pos z] at h; exact h
  · rw [n10]; exact k1 13 (by omega) q
  · have hk' : k = 0 ∨ k = 1 ∨ k = 2 ∨ k = 3 ∨ k = 4 ∨ k = 5 ∨ k = 6 ∨ k = 7 ∨ k = 8 ∨ k = 9 ∨ k = 10 ∨ k = 11 ∨ k = 12 ∨ k = 13 := by omega
    rcases hk' with h | h | h | h | h | h | h | h | h | h | h | h | h | h <;> subst h
    · exact q0 e
    · exact q1 e
    · exact q2 e
    · exact q3 e
    · exact q4 e
    · exact q5 e
    · exact q6 e
    · exact q7 e
    · exact q8 e
    · exact q9 e
    · exact q10 e
    · exact q11 e
    · exact q12 e
    · exact q13 e
/-- entry k's part q of a node's log -/
def gEntry (N : nT) (k q : Nat) : Int64 := N.2 2 ((N.1 10 0 - min 100 (N.1 10 0) + k) % 100 * 6 + q)
theorem c_size (H : zCV Z S0 ad n w S (gN G i N)) (hi : i < n) (hB : N.1 10 0 < 2 ^ 30) {Qp : Int32 → zS → Prop} (k : Qp (nI (min 100 (N.1 10 0))) S) : w_X0_size Z (ad 9 i) S Qp := by
  obtain ⟨-, -, -, ⟨l1, l2, l3, l4⟩, -⟩ := zCV_nd H hi
  have e0 : zI S (ad 9 i) 1 = nI (N.1 10 0) := cv_I H hi 10 (by omega) (by omega)
  have hl : (100 < nI (N.1 10 0)) ↔ 100 < N.1 10 0 := nI_ltI (a := 100) (by omega) (by omega)
  unfold w_X0_size
  refine ⟨l1, fun y e => ?_⟩
  subst e
  rw [e0]
  by_cases c : 100 < N.1 10 0
  · rw [if_pos (hl.mpr c)]
    rw [Nat.min_eq_left (by omega)] at k
    exact k
  · rw [if_neg (fun z => c (hl.mp z))]
    rw [Nat.min_eq_right (by omega)] at k
    exact k
theorem c_entryAll (H : zCV Z S0 ad n w S G) (hB : ∀ j, j < n → (G.1 j).1 10 0 < 2 ^ 29) {x y z : Int32} {Qp : Int64 → zS → Prop} {Xp : String → zS → Prop} (k1 : ∀ i k q, i < n → x = nI i → k < min 100 ((G.1 i).1 10 0) → y = nI k → q < 6 → z = nI q → Qp (gEntry (G.1 i) k q) S) (k2 : ∀ i k, i < n → x = nI i → k < min 100 ((G.1 i).1 10 0) → y = nI k → (z < 0 ∨ 6 ≤ z) → Xp "java/lang/IllegalArgumentException" S) (k3 : (x < 0 ∨ nI n ≤ x) → Xp "java/lang/IndexOutOfBoundsException" S) (k4 : ∀ i, i < n → x = nI i → (y < 0 ∨ nI (min 100 ((G.1 i).1 10 0)) ≤ y) → Xp "java/lang/IndexOutOfBoundsException" S) : w_X6_entry Z (ad 0 0) x y z S Qp Xp := by
  obtain ⟨r1, r2, r3, r4⟩ := cv_row H
  unfold w_X6_entry
  refine ⟨r1, c_nodeAt H (fun i hi hx => ?_) k3⟩
  obtain ⟨⟨d1, d2, d3, d4, d5⟩, -, -, ⟨l1, l2, l3, l4⟩, -⟩ := zCV_nd H hi
  have hb := hB i hi
  have e0 : zI S (ad 9 i) 1 = nI ((G.1 i).1 10 0) := (cv_g H hi).1.2 10 (by omega) (by omega)
  refine ⟨ad 3 i, rfl, d1, ad 9 i, d4, ?_⟩
  unfold wJ_X6_entry_23 wJ_X6_entry_43
  have hm : min 100 ((G.1 i).1 10 0) ≤ 100 := Nat.min_le_left _ _
  have hm2 : min 100 ((G.1 i).1 10 0) ≤ (G.1 i).1 10 0 := Nat.min_le_right _ _
  rcases pk_ix y (n := min 100 ((G.1 i).1 10 0)) (by omega) with h | h | ⟨k, hk, hy⟩
  · exact ⟨fun _ => k4 i hi hx (Or.inl h), fun q => absurd h q⟩
  · refine ⟨fun _ => k4 i hi hx (Or.inr h), fun q => ⟨l1, c_size (N := G.1 i) (cn_0 H) hi (by omega) ⟨fun z => absurd h (Int32.not_le.mpr z), fun _ => k4 i hi hx (Or.inr h)⟩⟩⟩
  · refine ⟨fun q => absurd q (by rw [hy]; exact nI_pos (by omega)), fun q => ⟨l1, c_size (N := G.1 i) (cn_0 H) hi (by omega) ⟨fun _ => ?_, fun z => absurd (by rw [hy]; exact nI_lt hk (by omega)) z⟩⟩⟩
    rcases pk_ix z (n := 6) (by omega) with h | h | ⟨u, hu, hz⟩
    · exact ⟨fun _ => k2 i k hi hx hk hy (Or.inl h), fun q => absurd h q⟩
    · exact ⟨fun _ => k2 i k hi hx hk hy (Or.inr h), fun q => ⟨fun z => absurd h (Int32.not_le.mpr z), fun _ => k2 i k hi hx hk hy (Or.inr h)⟩⟩
    · refine ⟨fun q => absurd q (by rw [hz]; exact nI_pos (by omega)), fun q => ⟨fun _ => ?_, fun zz => absurd (show z < 6 by rw [hz]; exact nI_lt (a := u) (b := 6) hu (by decide)) zz⟩⟩
      unfold w_X0_cell
      refine ⟨l1, ad 10 i, l2, c_size (N := G.1 i) (cn_0 H) hi (by omega) ?_⟩
      rw [e0, pk_sub hm2, hy, nI_add]
      refine fmod100 (by omega) ?_
      have hq : ((G.1 i).1 10 0 - min 100 ((G.1 i).1 10 0) + k) % 100 < 100 := Nat.mod_lt _ (by omega)
      have e1 : nI (((G.1 i).1 10 0 - min 100 ((G.1 i).1 10 0) + k) % 100) * 6 + z = nI (((G.1 i).1 10 0 - min 100 ((G.1 i).1 10 0) + k) % 100 * 6 + u) := by
        rw [hz, ← nI_add]
        exact congrArg (· + nI u) (pk_mul _ 6)
      rw [e1, nI_clamp (by omega)]
      refine ⟨l3, by rw [l4]; exact vp_in_nI (by omega) (by omega), ?_⟩
      rw [(cv_g H hi).2.2.1.2.2 _ (by omega)]
      exact k1 i k u hi hx hk hy hu hz
end
